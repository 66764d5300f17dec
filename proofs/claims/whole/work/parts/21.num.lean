/-! NUMBERS -/
theorem ix_of {v : Int32} {n : Nat} (h0 : 0 ≤ v) (h1 : v < nI n) (hn : n < 2 ^ 31) : ∃ k : Nat, k < n ∧ v = nI k := by
  obtain ⟨j, hj, rfl⟩ := nI_of (x := v) (by grind)
  exact ⟨j, (nI_ltI hj hn).mp h1, rfl⟩
theorem ix_le {v M : Int32} (n : Nat) (h0 : 0 ≤ v) (h1 : v ≤ M) (hM : M.toInt = n) : ∃ k : Nat, k ≤ n ∧ v = nI k := nI_of2 hM (by grind) h1
theorem ix_in {v M : Int32} (n : Nat) (h0 : 0 ≤ v) (h1 : v ≤ M) (hM : M.toInt = n) (hn : n + 1 < 2 ^ 31) : vp_in v (n + 1) := by
  obtain ⟨k, hk, rfl⟩ := ix_le n h0 h1 hM
  exact vp_in_nI (by omega) hn
theorem cl_nI {k : Nat} (h : k < 2 ^ 31) : (nI k).toNatClampNeg = k := nI_clamp h
theorem up_s {α : Type} {f : Nat → α} {k : Nat} {v : α} : va_up f k v k = v := va_up_self f k v
theorem up_n {α : Type} {f : Nat → α} {k j : Nat} {v : α} (h : j ≠ k) : va_up f k v j = f j := va_up_ne f v h
theorem ud_s {f : Nat → Int32} {k : Nat} {v : Int32} : upd f k v k = v := by simp [upd]
theorem ud_n {f : Nat → Int32} {k j : Nat} {v : Int32} (h : j ≠ k) : upd f k v j = f j := by simp [upd, h]
theorem vl (k : Nat) {n : Nat} (h : Nat.blt k n = true) (h2 : Nat.blt n (2 ^ 31) = true) : vp_in (nI k) n := vp_in_nI (Nat.le_of_ble_eq_true h) (Nat.le_of_ble_eq_true h2)
/-! THE SMALL METHODS -/
theorem w_X8 {E : ME} {d : Nat} {v lo hi : Int32} {h : MH} {K : MK} (h1 : lo ≤ v → v ≤ hi → K (some (.int 1)) h) (h0 : ¬ (lo ≤ v ∧ v ≤ hi) → K (some (.int 0)) h) : mCall E d nX8_within [.int v, .int lo, .int hi] h K := by
  refine mCall_sem MX8_within rfl rfl (Or.inl ⟨rfl, rfl, rfl⟩) rfl (mSem_wp MX8_within rfl aX8_within 300 [] (fun cl ax hcl hax => ?_))
  refine ⟨fun c1 => ?_, fun c1 => ⟨fun c2 => ?_, fun c2 => ?_⟩⟩
  · exact ⟨rfl, h0 (by grind)⟩
  · exact ⟨rfl, h0 (by grind)⟩
  · exact ⟨rfl, h1 (by grind) (by grind)⟩
theorem w_X9 {E : ME} {d : Nat} {v lo hi : Int32} {h : MH} {K : MK} (h1 : lo ≤ v → v ≤ hi → K (some (.int 1)) h) (h0 : ¬ (lo ≤ v ∧ v ≤ hi) → K (some (.int 0)) h) : mCall E d nX9_within [.int v, .int lo, .int hi] h K := by
  refine mCall_sem MX9_within rfl rfl (Or.inl ⟨rfl, rfl, rfl⟩) rfl (mSem_wp MX9_within rfl aX9_within 300 [] (fun cl ax hcl hax => ?_))
  refine ⟨fun c1 => ?_, fun c1 => ⟨fun c2 => ?_, fun c2 => ?_⟩⟩
  · exact ⟨rfl, h0 (by grind)⟩
  · exact ⟨rfl, h0 (by grind)⟩
  · exact ⟨rfl, h1 (by grind) (by grind)⟩
theorem w_X8_isLane {E : ME} {d : Nat} {v : Int32} {h : MH} {K : MK} (h1 : 0 ≤ v → v ≤ 8 → K (some (.int 1)) h) (h0 : ¬ (0 ≤ v ∧ v ≤ 8) → K (some (.int 0)) h) : mCall E (d + 1) nX8_isLane [.int v] h K := by
  refine mCall_sem MX8_isLane rfl rfl (Or.inl ⟨rfl, rfl, rfl⟩) rfl (mSem_wp MX8_isLane rfl aX8_isLane 300 [] (fun cl ax hcl hax => ?_))
  refine hcl _ _ _ _ (w_X8 (fun c1 c2 => ?_) (fun c1 => ?_))
  · exact ⟨rfl, h1 c1 c2⟩
  · exact ⟨rfl, h0 c1⟩
theorem w_X8_isKind {E : ME} {d : Nat} {v : Int32} {h : MH} {K : MK} (h1 : 0 ≤ v → v ≤ 5 → K (some (.int 1)) h) (h0 : ¬ (0 ≤ v ∧ v ≤ 5) → K (some (.int 0)) h) : mCall E (d + 1) nX8_isKind [.int v] h K := by
  refine mCall_sem MX8_isKind rfl rfl (Or.inl ⟨rfl, rfl, rfl⟩) rfl (mSem_wp MX8_isKind rfl aX8_isKind 300 [] (fun cl ax hcl hax => ?_))
  refine hcl _ _ _ _ (w_X8 (fun c1 c2 => ?_) (fun c1 => ?_))
  · exact ⟨rfl, h1 c1 c2⟩
  · exact ⟨rfl, h0 c1⟩
theorem w_X8_isSheet {E : ME} {d : Nat} {v : Int32} {h : MH} {K : MK} (h1 : 0 ≤ v → v ≤ 3 → K (some (.int 1)) h) (h0 : ¬ (0 ≤ v ∧ v ≤ 3) → K (some (.int 0)) h) : mCall E (d + 1) nX8_isSheet [.int v] h K := by
  refine mCall_sem MX8_isSheet rfl rfl (Or.inl ⟨rfl, rfl, rfl⟩) rfl (mSem_wp MX8_isSheet rfl aX8_isSheet 300 [] (fun cl ax hcl hax => ?_))
  refine hcl _ _ _ _ (w_X8 (fun c1 c2 => ?_) (fun c1 => ?_))
  · exact ⟨rfl, h1 c1 c2⟩
  · exact ⟨rfl, h0 c1⟩
theorem w_X9_isLane {E : ME} {d : Nat} {v : Int32} {h : MH} {K : MK} (h1 : 0 ≤ v → v ≤ 8 → K (some (.int 1)) h) (h0 : ¬ (0 ≤ v ∧ v ≤ 8) → K (some (.int 0)) h) : mCall E (d + 1) nX9_isLane [.int v] h K := by
  refine mCall_sem MX9_isLane rfl rfl (Or.inl ⟨rfl, rfl, rfl⟩) rfl (mSem_wp MX9_isLane rfl aX9_isLane 300 [] (fun cl ax hcl hax => ?_))
  refine hcl _ _ _ _ (w_X9 (fun c1 c2 => ?_) (fun c1 => ?_))
  · exact ⟨rfl, h1 c1 c2⟩
  · exact ⟨rfl, h0 c1⟩
theorem w_X9_isSheet {E : ME} {d : Nat} {v : Int32} {h : MH} {K : MK} (h1 : 0 ≤ v → v ≤ 3 → K (some (.int 1)) h) (h0 : ¬ (0 ≤ v ∧ v ≤ 3) → K (some (.int 0)) h) : mCall E (d + 1) nX9_isSheet [.int v] h K := by
  refine mCall_sem MX9_isSheet rfl rfl (Or.inl ⟨rfl, rfl, rfl⟩) rfl (mSem_wp MX9_isSheet rfl aX9_isSheet 300 [] (fun cl ax hcl hax => ?_))
  refine hcl _ _ _ _ (w_X9 (fun c1 c2 => ?_) (fun c1 => ?_))
  · exact ⟨rfl, h1 c1 c2⟩
  · exact ⟨rfl, h0 c1⟩
theorem w_X9_isYear {E : ME} {d : Nat} {v : Int32} {h : MH} {K : MK} (h1 : 0 ≤ v → v ≤ 999 → K (some (.int 1)) h) (h0 : ¬ (0 ≤ v ∧ v ≤ 999) → K (some (.int 0)) h) : mCall E (d + 1) nX9_isYear [.int v] h K := by
  refine mCall_sem MX9_isYear rfl rfl (Or.inl ⟨rfl, rfl, rfl⟩) rfl (mSem_wp MX9_isYear rfl aX9_isYear 300 [] (fun cl ax hcl hax => ?_))
  refine hcl _ _ _ _ (w_X9 (fun c1 c2 => ?_) (fun c1 => ?_))
  · exact ⟨rfl, h1 c1 c2⟩
  · exact ⟨rfl, h0 c1⟩
theorem w_X8_isHouse {E : ME} {d : Nat} {v n : Int32} {A : Nat → Nat → Int32} {B : Nat → Nat → Int64} {K : MK} (hn : A 4 0 = n) (h1 : 0 ≤ v → v ≤ n - 1 → K (some (.int 1)) (SH, A, B)) (h0 : ¬ (0 ≤ v ∧ v ≤ n - 1) → K (some (.int 0)) (SH, A, B)) : mCall E (d + 1) nX8_isHouse [.ref 0, .int v] (SH, A, B) K := by
  subst hn
  refine mCall_sem MX8_isHouse rfl rfl (Or.inl ⟨rfl, rfl, rfl⟩) rfl (mSem_wp MX8_isHouse rfl aX8_isHouse 300 [] (fun cl ax hcl hax => ?_))
  refine hcl _ _ _ _ (w_X8 (fun c1 c2 => ?_) (fun c1 => ?_))
  · exact ⟨rfl, h1 c1 c2⟩
  · exact ⟨rfl, h0 c1⟩
theorem w_X8_isDeed {E : ME} {d : Nat} {v n : Int32} {A : Nat → Nat → Int32} {B : Nat → Nat → Int64} {K : MK} (hn : A 10 0 = n) (h1 : 0 ≤ v → v ≤ n - 1 → K (some (.int 1)) (SH, A, B)) (h0 : ¬ (0 ≤ v ∧ v ≤ n - 1) → K (some (.int 0)) (SH, A, B)) : mCall E (d + 1) nX8_isDeed [.ref 0, .int v] (SH, A, B) K := by
  subst hn
  refine mCall_sem MX8_isDeed rfl rfl (Or.inl ⟨rfl, rfl, rfl⟩) rfl (mSem_wp MX8_isDeed rfl aX8_isDeed 300 [] (fun cl ax hcl hax => ?_))
  refine hcl _ _ _ _ (w_X8 (fun c1 c2 => ?_) (fun c1 => ?_))
  · exact ⟨rfl, h1 c1 c2⟩
  · exact ⟨rfl, h0 c1⟩
theorem w_X9_isHouse {E : ME} {d : Nat} {v n : Int32} {A : Nat → Nat → Int32} {B : Nat → Nat → Int64} {K : MK} (hn : A 75 3 = n) (h1 : 0 ≤ v → v ≤ n - 1 → K (some (.int 1)) (SH, A, B)) (h0 : ¬ (0 ≤ v ∧ v ≤ n - 1) → K (some (.int 0)) (SH, A, B)) : mCall E (d + 1) nX9_isHouse [.ref 74, .int v] (SH, A, B) K := by
  subst hn
  refine mCall_sem MX9_isHouse rfl rfl (Or.inl ⟨rfl, rfl, rfl⟩) rfl (mSem_wp MX9_isHouse rfl aX9_isHouse 300 [] (fun cl ax hcl hax => ?_))
  refine ⟨vl 3 rfl rfl, ?_⟩
  refine hcl _ _ _ _ (w_X9 (fun c1 c2 => ?_) (fun c1 => ?_))
  · exact ⟨rfl, h1 c1 c2⟩
  · exact ⟨rfl, h0 c1⟩
theorem w_X9_isDeed {E : ME} {d : Nat} {v n : Int32} {A : Nat → Nat → Int32} {B : Nat → Nat → Int64} {K : MK} (hn : A 75 4 = n) (h1 : 0 ≤ v → v ≤ n - 1 → K (some (.int 1)) (SH, A, B)) (h0 : ¬ (0 ≤ v ∧ v ≤ n - 1) → K (some (.int 0)) (SH, A, B)) : mCall E (d + 1) nX9_isDeed [.ref 74, .int v] (SH, A, B) K := by
  subst hn
  refine mCall_sem MX9_isDeed rfl rfl (Or.inl ⟨rfl, rfl, rfl⟩) rfl (mSem_wp MX9_isDeed rfl aX9_isDeed 300 [] (fun cl ax hcl hax => ?_))
  refine ⟨vl 4 rfl rfl, ?_⟩
  refine hcl _ _ _ _ (w_X9 (fun c1 c2 => ?_) (fun c1 => ?_))
  · exact ⟨rfl, h1 c1 c2⟩
  · exact ⟨rfl, h0 c1⟩
theorem w_X8_isOnIce {E : ME} {d : Nat} {v n : Int32} {A : Nat → Nat → Int32} {B : Nat → Nat → Int64} {K : MK} (hn : A 2 0 = n) (h1 : 0 ≤ v → v ≤ n - 1 → K (some (.int 1)) (SH, A, B)) (h0 : ¬ (0 ≤ v ∧ v ≤ n - 1) → K (some (.int 0)) (SH, A, B)) : mCall E (d + 1) nX8_isOnIce [.ref 0, .int v] (SH, A, B) K := by
  subst hn
  refine mCall_sem MX8_isOnIce rfl rfl (Or.inl ⟨rfl, rfl, rfl⟩) rfl (mSem_wp MX8_isOnIce rfl aX8_isOnIce 300 [] (fun cl ax hcl hax => ?_))
  refine hcl _ _ _ _ (w_X8 (fun c1 c2 => ?_) (fun c1 => ?_))
  · exact ⟨rfl, h1 c1 c2⟩
  · exact ⟨rfl, h0 c1⟩
theorem w_X8_isPast {E : ME} {d : Nat} {n y : Int32} {A : Nat → Nat → Int32} {B : Nat → Nat → Int64} {K : MK} (hy : A 2 2 = y) (h1 : 999 < y + n → K (some (.int 1)) (SH, A, B)) (h0 : ¬ 999 < y + n → K (some (.int 0)) (SH, A, B)) : mCall E d nX8_isPastLastYear [.ref 0, .int n] (SH, A, B) K := by
  subst hy
  refine mCall_sem MX8_isPastLastYear rfl rfl (Or.inl ⟨rfl, rfl, rfl⟩) rfl (mSem_wp MX8_isPastLastYear rfl aX8_isPastLastYear 300 [] (fun cl ax hcl hax => ?_))
  refine ⟨fun c1 => ?_, fun c1 => ?_⟩
  · exact ⟨rfl, h0 (by grind)⟩
  · exact ⟨rfl, h1 (by grind)⟩
theorem w_X9_isTooLate {E : ME} {d : Nat} {n y : Int32} {A : Nat → Nat → Int32} {B : Nat → Nat → Int64} {K : MK} (hy : A 75 1 = y) (h1 : 999 < y + n → K (some (.int 1)) (SH, A, B)) (h0 : ¬ 999 < y + n → K (some (.int 0)) (SH, A, B)) : mCall E d nX9_isTooLate [.ref 74, .int n] (SH, A, B) K := by
  subst hy
  refine mCall_sem MX9_isTooLate rfl rfl (Or.inl ⟨rfl, rfl, rfl⟩) rfl (mSem_wp MX9_isTooLate rfl aX9_isTooLate 300 [] (fun cl ax hcl hax => ?_))
  refine ⟨vl 1 rfl rfl, ?_⟩
  refine ⟨fun c1 => ?_, fun c1 => ?_⟩
  · exact ⟨rfl, h0 (by grind)⟩
  · exact ⟨rfl, h1 (by grind)⟩
/-- a finding is counted -/
def cnt1 (A : Nat → Nat → Int32) (i : Nat) : Nat → Nat → Int32 := va_up A 73 (upd (A 73) i (A 73 i + 1))
def cnt2 (A : Nat → Nat → Int32) (i : Nat) : Nat → Nat → Int32 := va_up A 78 (upd (upd (A 78) (i + 1) (A 78 (i + 1) + 1)) 0 (A 78 0 + 1))
theorem w_X8_refuse {E : ME} {d : Nat} {f : Int32} {A : Nat → Nat → Int32} {B : Nat → Nat → Int64} {K : MK} (i : Nat) (hi : i < 7) (hf : f = -1000000001 - nI i) (k : K (some (.int f)) (SH, cnt1 A i, B)) : mCall E (d + 1) nX8_refuse [.ref 0, .int f] (SH, A, B) K := by
  have e9 : -1000000001 - f = nI i := by grind
  have e8 : (nI i).toNatClampNeg = i := nI_clamp (by omega)
  have hv : vp_in (nI i) 7 := vp_in_nI hi (by decide)
  have h0 : 0 ≤ nI i := nI_pos' (by omega)
  have h6 : nI i ≤ 6 := nI_le (a := i) (b := 6) (by omega) (by decide)
  refine mCall_sem MX8_refuse rfl rfl (Or.inl ⟨rfl, rfl, rfl⟩) rfl (mSem_wp MX8_refuse rfl aX8_refuse 300 [] (fun cl ax hcl hax => ?_))
  refine hcl _ _ _ _ (w_X8 (fun c1 c2 => ?_) (fun c1 => ?_))
  · refine ⟨fun h9 => absurd h9 (by decide), fun _ => ?_⟩
    refine ⟨by rw [e9]; exact hv, ?_⟩
    refine ⟨by rw [e9]; exact hv, ?_⟩
    have k2 : K (some (.int f)) (msetA (SH, A, B) 73 (-1000000001 - f).toNatClampNeg (A 73 (-1000000001 - f).toNatClampNeg + 1)) := by
      rw [e9, e8]
      exact k
    exact k2
  · exact absurd ⟨by rw [e9]; exact h0, by rw [e9]; exact h6⟩ c1
theorem w_X9_finding {E : ME} {d : Nat} {f : Int32} {A : Nat → Nat → Int32} {B : Nat → Nat → Int64} {K : MK} (i : Nat) (hi : i < 7) (hf : f = -1000000001 - nI i) (k : K (some (.int f)) (SH, cnt2 A i, B)) : mCall E d nX9_finding [.ref 74, .int f] (SH, A, B) K := by
  have e9 : -1000000001 - f + 1 = nI (i + 1) := by
    rw [← nI_1]
    grind
  have e8 : (nI (i + 1)).toNatClampNeg = i + 1 := nI_clamp (by omega)
  have hv : vp_in (nI (i + 1)) 8 := vp_in_nI (by omega) (by decide)
  refine mCall_sem MX9_finding rfl rfl (Or.inl ⟨rfl, rfl, rfl⟩) rfl (mSem_wp MX9_finding rfl aX9_finding 300 [] (fun cl ax hcl hax => ?_))
  refine ⟨by rw [e9]; exact hv, ?_⟩
  refine ⟨by rw [e9]; exact hv, ?_⟩
  refine ⟨vl 0 rfl rfl, ?_⟩
  refine ⟨vl 0 rfl rfl, ?_⟩
  conv => whnf
  simp only [msetA, e9, e8, up_s, bx_uu]
  have e7 : (0 : Int32).toNatClampNeg = 0 := rfl
  rw [e7, ud_n (by omega)]
  exact k
