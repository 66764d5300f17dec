/-! HOUSES: what is asked of them -/
theorem hIx (j f q : Nat) (h : q = 15 + 5 * j + f) : 15 + 5 * nI j + nI f = nI q := by
  subst h
  rw [show (5 : Int32) * nI j = nI (5 * j) from pk_mul 5 j, show (15 : Int32) + nI (5 * j) = nI (15 + 5 * j) from nI_add 15 (5 * j), nI_add]
theorem w_houseIs {E : ME} {d : Nat} {hh f : Int32} {A : Nat → Nat → Int32} {B : Nat → Nat → Int64} {K : MK} (q : Nat) (hq : q < 135) (e : 15 + 5 * hh + f = nI q) (hK : K (some (.int (A 75 q))) (SH, A, B)) : mCall E d nX9_houseIs [.ref 74, .int hh, .int f] (SH, A, B) K := by
  have e8 : (nI q).toNatClampNeg = q := nI_clamp (by omega)
  refine mCall_sem MX9_houseIs rfl rfl (Or.inl ⟨rfl, rfl, rfl⟩) rfl (mSem_wp MX9_houseIs rfl aX9_houseIs 300 [] (fun cl ax hcl hax => ?_))
  refine ⟨by rw [e]; exact vp_in_nI (N := 135) hq (by decide), ?_⟩
  rw [← e8, ← e] at hK
  exact hK
theorem w_isGone {E : ME} {d : Nat} {A : Nat → Nat → Int32} {B : Nat → Nat → Int64} {K : MK} (j : Nat) (hj : j < 12) (h1 : A 75 (19 + 5 * j) = 1 → K (some (.int 1)) (SH, A, B)) (h0 : ¬ A 75 (19 + 5 * j) = 1 → K (some (.int 0)) (SH, A, B)) : mCall E (d + 1) nX9_isGone [.ref 74, .int (nI j)] (SH, A, B) K := by
  refine mCall_sem MX9_isGone rfl rfl (Or.inl ⟨rfl, rfl, rfl⟩) rfl (mSem_wp MX9_isGone rfl aX9_isGone 300 [] (fun cl ax hcl hax => ?_))
  refine hcl _ _ _ _ (w_houseIs (19 + 5 * j) (by omega) (hIx j 4 _ (by omega)) ?_)
  refine ⟨fun c => ?_, fun c => ?_⟩
  · exact ⟨rfl, h0 c⟩
  · exact ⟨rfl, h1 c⟩
/-- the step of a house of a kind in a lane: w the warm years, P the paces -/
def SD (w : Int32) (P : Nat → Int32) (kd ln hd y : Int32) : Int32 := sd kd hd y (fl w (P ln.toNatClampNeg) y) (fl w (P (nmN ln.toNatClampNeg)) y)
theorem w_strideL {E : ME} {d : Nat} {kd l hd y : Int32} {A : Nat → Nat → Int32} {B : Nat → Nat → Int64} {K : MK} (h0 : 0 ≤ l) (h8 : l ≤ 8) (hK : K (some (.int (SD (A 2 1) (A 3) kd l hd y))) (SH, A, B)) : mCall E (d + 2) nX2_stride [.ref 2, .int kd, .int l, .int hd, .int y] (SH, A, B) K := by
  obtain ⟨k, hk, rfl⟩ := ix_le 8 h0 h8 rfl
  refine w_stride k (by omega) rfl ?_
  rw [SD, nI_clamp (by omega)] at hK
  exact hK
theorem w_stepOfL {E : ME} {d : Nat} {kd l hd y : Int32} {A : Nat → Nat → Int32} {B : Nat → Nat → Int64} {K : MK} (h0 : 0 ≤ l) (h8 : l ≤ 8) (hK : K (some (.int (SD (A 75 2) (fun q => A 75 (6 + q)) kd l hd y))) (SH, A, B)) : mCall E (d + 4) nX9_stepOf [.ref 74, .int kd, .int l, .int hd, .int y] (SH, A, B) K := by
  obtain ⟨k, hk, rfl⟩ := ix_le 8 h0 h8 rfl
  refine w_stepOf k (by omega) rfl ?_
  rw [SD, nI_clamp (by omega)] at hK
  exact hK
theorem SD_c {w w' : Int32} {P P' : Nat → Int32} (hw : w = w') (hP : ∀ q, q < 9 → P q = P' q) {kd l hd y : Int32} (h0 : 0 ≤ l) (h8 : l ≤ 8) : SD w P kd l hd y = SD w' P' kd l hd y := by
  obtain ⟨k, hk, rfl⟩ := ix_le 8 h0 h8 rfl
  unfold SD
  rw [nI_clamp (by omega), hw, hP k (by omega), hP (nmN k) (nmN_lt (by omega))]
/-- the step of house j by the model's row -/
def sm (N : Nat → Int32) (j : Nat) (y : Int32) : Int32 := SD (N 2) (fun q => N (6 + q)) (N (15 + 5 * j)) (N (16 + 5 * j)) (N (18 + 5 * j)) y
theorem w_stepNow {E : ME} {d : Nat} {A : Nat → Nat → Int32} {B : Nat → Nat → Int64} {K : MK} (j : Nat) (hj : j < 12) (h0 : 0 ≤ A 75 (16 + 5 * j)) (h8 : A 75 (16 + 5 * j) ≤ 8) (hK : K (some (.int (sm (A 75) j (A 75 1)))) (SH, A, B)) : mCall E (d + 5) nX9_stepNow [.ref 74, .int (nI j)] (SH, A, B) K := by
  refine mCall_sem MX9_stepNow rfl rfl (Or.inl ⟨rfl, rfl, rfl⟩) rfl (mSem_wp MX9_stepNow rfl aX9_stepNow 300 [] (fun cl ax hcl hax => ?_))
  refine hcl _ _ _ _ (w_houseIs (15 + 5 * j) (by omega) (hIx j 0 _ (by omega)) ?_)
  refine hcl _ _ _ _ (w_houseIs (16 + 5 * j) (by omega) (hIx j 1 _ (by omega)) ?_)
  refine hcl _ _ _ _ (w_houseIs (18 + 5 * j) (by omega) (hIx j 3 _ (by omega)) ?_)
  refine ⟨vl 1 rfl rfl, ?_⟩
  exact hcl _ _ _ _ (w_stepOfL h0 h8 hK)
theorem w_strideOf4 {E : ME} {d : Nat} {y : Int32} {A : Nat → Nat → Int32} {B : Nat → Nat → Int64} {K : MK} (j : Nat) (hj : j < 12) (h0 : 0 ≤ A 6 j) (h8 : A 6 j ≤ 8) (k0 : A 9 j = 0 → K (some (.int (SD (A 2 1) (A 3) (A 5 j) (A 6 j) (A 8 j) y))) (SH, A, B)) (k1 : ¬ A 9 j = 0 → K (some (.int 0)) (SH, A, B)) : mCall E (d + 3) nX1_strideOf [.ref 4, .int (nI j), .ref 2, .int y] (SH, A, B) K := by
  have e8 : (nI j).toNatClampNeg = j := nI_clamp (by omega)
  have hv : vp_in (nI j) 12 := vp_in_nI hj (by decide)
  rw [← e8] at k0 k1 h0 h8
  refine mCall_sem MX1_strideOf rfl rfl (Or.inl ⟨rfl, rfl, rfl⟩) rfl (mSem_wp MX1_strideOf rfl aX1_strideOf 300 [] (fun cl ax hcl hax => ?_))
  refine ⟨hv, ?_⟩
  refine ⟨fun c => ?_, fun c => ?_⟩
  · refine ⟨hv, ?_⟩
    refine ⟨hv, ?_⟩
    refine ⟨hv, ?_⟩
    exact hcl _ _ _ _ (w_strideL h0 h8 (k0 c))
  · exact k1 c
theorem w_strideOf35 {E : ME} {d : Nat} {y : Int32} {A : Nat → Nat → Int32} {B : Nat → Nat → Int64} {K : MK} (j : Nat) (hj : j < 12) (h0 : 0 ≤ A 37 j) (h8 : A 37 j ≤ 8) (k0 : A 40 j = 0 → K (some (.int (SD (A 2 1) (A 3) (A 36 j) (A 37 j) (A 39 j) y))) (SH, A, B)) (k1 : ¬ A 40 j = 0 → K (some (.int 0)) (SH, A, B)) : mCall E (d + 3) nX1_strideOf [.ref 35, .int (nI j), .ref 2, .int y] (SH, A, B) K := by
  have e8 : (nI j).toNatClampNeg = j := nI_clamp (by omega)
  have hv : vp_in (nI j) 12 := vp_in_nI hj (by decide)
  rw [← e8] at k0 k1 h0 h8
  refine mCall_sem MX1_strideOf rfl rfl (Or.inl ⟨rfl, rfl, rfl⟩) rfl (mSem_wp MX1_strideOf rfl aX1_strideOf 300 [] (fun cl ax hcl hax => ?_))
  refine ⟨hv, ?_⟩
  refine ⟨fun c => ?_, fun c => ?_⟩
  · refine ⟨hv, ?_⟩
    refine ⟨hv, ?_⟩
    refine ⟨hv, ?_⟩
    exact hcl _ _ _ _ (w_strideL h0 h8 (k0 c))
  · exact k1 c
/-- what holds of house j -/
theorem rHou_at {A : Nat → Nat → Int32} {h a b c d g n : Nat} (hr : rHou A h a b c d g n) : ∃ k, k ≤ 12 ∧ A h 0 = nI k ∧ A n 3 = nI k ∧ ∀ j, j < k → (A a j = A n (15 + 5 * j) ∧ A b j = A n (16 + 5 * j) ∧ A c j = A n (17 + 5 * j) ∧ A d j = A n (18 + 5 * j) ∧ A g j = A n (19 + 5 * j)) ∧ (0 ≤ A n (15 + 5 * j) ∧ A n (15 + 5 * j) ≤ 5) ∧ (0 ≤ A n (16 + 5 * j) ∧ A n (16 + 5 * j) ≤ 8) ∧ (0 ≤ A n (17 + 5 * j) ∧ A n (17 + 5 * j) ≤ 9999) ∧ (0 ≤ A n (18 + 5 * j) ∧ A n (18 + 5 * j) ≤ 99) ∧ ((A n (19 + 5 * j) = 0 ∧ A n (17 + 5 * j) < A n 0) ∨ A n (19 + 5 * j) = 1) := hr
theorem ho_ix {v : Int32} {k : Nat} (hk : k ≤ 12) (h0 : 0 ≤ v) (h1 : v ≤ nI k - 1) : ∃ j, j < k ∧ v = nI j := by
  have h2 : nI k ≤ 12 := nI_le (b := 12) hk (by decide)
  have h3 : 0 ≤ nI k := nI_pos' (by omega)
  exact ix_of h0 (by grind) (by omega)
/-- one house's number changes: kind, feet, hold -/
theorem rAll_h0 {A : Nat → Nat → Int32} {B : Nat → Nat → Int64} (h : rAll A B) {j k : Nat} (hk : A 75 3 = nI k) (hj : j < k) (h12 : k ≤ 12) {v : Int32} (h0 : 0 ≤ v) (h1 : v ≤ 5) (h2 : 0 = 2 → v < A 75 0 ∨ A 75 (19 + 5 * j) = 1) : rAll (va_up (va_up A 5 (upd (A 5) j v)) 75 (upd (A 75) (15 + 5 * j) v)) B := by
  obtain ⟨⟨hi, hh, hd, hs⟩, hk9, hf, ht, hsh⟩ := h
  have n : ∀ q, q ≠ 15 + 5 * j → upd (A 75) (15 + 5 * j) v q = A 75 q := fun q hq => ud_n hq
  refine ⟨⟨rIce_c hi rfl rfl (fun q hq => n q (by omega)), ?_, rDee_c hd rfl rfl rfl (fun q hq => n q (by omega)), rSta_c hs rfl rfl rfl rfl rfl (fun q hq => n q (by omega))⟩, hk9, hf, ht, hsh⟩
  obtain ⟨k', k1, k2, k3, k4⟩ := hh
  refine ⟨k', k1, k2, (n 3 (by omega)).trans k3, fun i hi => ?_⟩
  have k5 := k4 i hi
  clear k4 hi hd hs hk9 hf ht hsh
  have n0 := n 0 (by omega)
  by_cases hij : i = j
  · subst hij
    simp [va_up, upd] at *
    grind
  · have m0 := n (15 + 5 * i) (by omega)
    have m1 := n (16 + 5 * i) (by omega)
    have m2 := n (17 + 5 * i) (by omega)
    have m3 := n (18 + 5 * i) (by omega)
    have m4 := n (19 + 5 * i) (by omega)
    have m5 : upd (A 5) j v i = A 5 i := ud_n hij
    simp only [va_up, Nat.reduceEqDiff, reduceIte, m0, m1, m2, m3, m4, m5, n0]
    exact k5
theorem rAll_h2 {A : Nat → Nat → Int32} {B : Nat → Nat → Int64} (h : rAll A B) {j k : Nat} (hk : A 75 3 = nI k) (hj : j < k) (h12 : k ≤ 12) {v : Int32} (h0 : 0 ≤ v) (h1 : v ≤ 9999) (h2 : 2 = 2 → v < A 75 0 ∨ A 75 (19 + 5 * j) = 1) : rAll (va_up (va_up A 7 (upd (A 7) j v)) 75 (upd (A 75) (17 + 5 * j) v)) B := by
  obtain ⟨⟨hi, hh, hd, hs⟩, hk9, hf, ht, hsh⟩ := h
  have n : ∀ q, q ≠ 17 + 5 * j → upd (A 75) (17 + 5 * j) v q = A 75 q := fun q hq => ud_n hq
  refine ⟨⟨rIce_c hi rfl rfl (fun q hq => n q (by omega)), ?_, rDee_c hd rfl rfl rfl (fun q hq => n q (by omega)), rSta_c hs rfl rfl rfl rfl rfl (fun q hq => n q (by omega))⟩, hk9, hf, ht, hsh⟩
  obtain ⟨k', k1, k2, k3, k4⟩ := hh
  refine ⟨k', k1, k2, (n 3 (by omega)).trans k3, fun i hi => ?_⟩
  have k5 := k4 i hi
  clear k4 hi hd hs hk9 hf ht hsh
  have n0 := n 0 (by omega)
  by_cases hij : i = j
  · subst hij
    simp [va_up, upd] at *
    grind
  · have m0 := n (15 + 5 * i) (by omega)
    have m1 := n (16 + 5 * i) (by omega)
    have m2 := n (17 + 5 * i) (by omega)
    have m3 := n (18 + 5 * i) (by omega)
    have m4 := n (19 + 5 * i) (by omega)
    have m5 : upd (A 7) j v i = A 7 i := ud_n hij
    simp only [va_up, Nat.reduceEqDiff, reduceIte, m0, m1, m2, m3, m4, m5, n0]
    exact k5
theorem rAll_h3 {A : Nat → Nat → Int32} {B : Nat → Nat → Int64} (h : rAll A B) {j k : Nat} (hk : A 75 3 = nI k) (hj : j < k) (h12 : k ≤ 12) {v : Int32} (h0 : 0 ≤ v) (h1 : v ≤ 99) (h2 : 3 = 2 → v < A 75 0 ∨ A 75 (19 + 5 * j) = 1) : rAll (va_up (va_up A 8 (upd (A 8) j v)) 75 (upd (A 75) (18 + 5 * j) v)) B := by
  obtain ⟨⟨hi, hh, hd, hs⟩, hk9, hf, ht, hsh⟩ := h
  have n : ∀ q, q ≠ 18 + 5 * j → upd (A 75) (18 + 5 * j) v q = A 75 q := fun q hq => ud_n hq
  refine ⟨⟨rIce_c hi rfl rfl (fun q hq => n q (by omega)), ?_, rDee_c hd rfl rfl rfl (fun q hq => n q (by omega)), rSta_c hs rfl rfl rfl rfl rfl (fun q hq => n q (by omega))⟩, hk9, hf, ht, hsh⟩
  obtain ⟨k', k1, k2, k3, k4⟩ := hh
  refine ⟨k', k1, k2, (n 3 (by omega)).trans k3, fun i hi => ?_⟩
  have k5 := k4 i hi
  clear k4 hi hd hs hk9 hf ht hsh
  have n0 := n 0 (by omega)
  by_cases hij : i = j
  · subst hij
    simp [va_up, upd] at *
    grind
  · have m0 := n (15 + 5 * i) (by omega)
    have m1 := n (16 + 5 * i) (by omega)
    have m2 := n (17 + 5 * i) (by omega)
    have m3 := n (18 + 5 * i) (by omega)
    have m4 := n (19 + 5 * i) (by omega)
    have m5 : upd (A 8) j v i = A 8 i := ud_n hij
    simp only [va_up, Nat.reduceEqDiff, reduceIte, m0, m1, m2, m3, m4, m5, n0]
    exact k5
