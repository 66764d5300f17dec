/-! bounds -/
theorem hf60 : ∀ a, a < 61 → 0 ≤ nI a + nI a / 2 ∧ nI a + nI a / 2 ≤ 90 := by decide
theorem hf90 : ∀ a, a < 91 → 0 ≤ nI a / 2 ∧ nI a / 2 ≤ 90 := by decide
theorem fl_b {w p y : Int32} (h0 : 0 ≤ p) (h1 : p ≤ 60) : 0 ≤ fl w p y ∧ fl w p y ≤ 90 := by
  unfold fl
  split
  · obtain ⟨a, ha, rfl⟩ := ix_le 60 h0 h1 rfl
    exact hf60 a (by omega)
  · exact ⟨h0, by grind⟩
theorem sd_b {kd hd y own nr : Int32} (h0 : 0 ≤ own) (h1 : own ≤ 90) (n0 : 0 ≤ nr) (n1 : nr ≤ 90) (d0 : 0 ≤ hd) (d1 : hd ≤ 99) : 0 ≤ sd kd hd y own nr ∧ sd kd hd y own nr ≤ 93 := by
  have h2 : 0 ≤ own / 2 ∧ own / 2 ≤ 90 := by
    obtain ⟨a, ha, rfl⟩ := ix_le 90 h0 h1 rfl
    exact hf90 a (by omega)
  unfold sd mx
  split
  · split <;> grind
  split
  · split <;> grind
  split
  · split
    · decide
    · split <;> grind
  split
  · split <;> grind
  split
  · grind
  · grind
theorem sm_b {N : Nat → Int32} {j : Nat} {y : Int32} (hP : ∀ q, q < 9 → 0 ≤ N (6 + q) ∧ N (6 + q) ≤ 60) (l0 : 0 ≤ N (16 + 5 * j)) (l8 : N (16 + 5 * j) ≤ 8) (d0 : 0 ≤ N (18 + 5 * j)) (d1 : N (18 + 5 * j) ≤ 99) : 0 ≤ sm N j y ∧ sm N j y ≤ 93 := by
  obtain ⟨k, hk, e⟩ := ix_le 8 l0 l8 rfl
  unfold sm SD
  rw [e, nI_clamp (by omega)]
  have a := fl_b (w := N 2) (y := y) (hP k (by omega)).1 (hP k (by omega)).2
  have b := fl_b (w := N 2) (y := y) (hP (nmN k) (nmN_lt (by omega))).1 (hP (nmN k) (nmN_lt (by omega))).2
  exact sd_b a.1 a.2 b.1 b.2 d0 d1
theorem TR_b {N : Nat → Int32} {j : Nat} (e0 : 100 ≤ N 0) (e1 : N 0 ≤ 9999) (hs : ∀ y, 0 ≤ sm N j y ∧ sm N j y ≤ 93) (f0 : 0 ≤ N (17 + 5 * j) ∧ N (17 + 5 * j) ≤ 9999) (g0 : (N (19 + 5 * j) = 0 ∧ N (17 + 5 * j) < N 0) ∨ N (19 + 5 * j) = 1) : ∀ n, (0 ≤ (TR N j n).1 ∧ (TR N j n).1 ≤ 9999) ∧ (((TR N j n).2 = 0 ∧ (TR N j n).1 < N 0) ∨ (TR N j n).2 = 1)
  | 0 => ⟨f0, g0⟩
  | n + 1 => by
    have ih := TR_b e0 e1 hs f0 g0 n
    have h := hs (N 1 + nI n)
    have e : TR N j (n + 1) = st1 (N 0) (sm N j (N 1 + nI n)) (TR N j n) := rfl
    rw [e]
    generalize TR N j n = p at ih ⊢
    obtain ⟨f, g⟩ := p
    generalize sm N j (N 1 + nI n) = s at h ⊢
    unfold st1
    simp only at ih ⊢
    clear hs e
    split
    · split
      · exact ⟨⟨by grind, by grind⟩, Or.inl ⟨rfl, by assumption⟩⟩
      · exact ⟨⟨by grind, e1⟩, Or.inr rfl⟩
    · exact ih
/-- what holds of the town that is, for the years -/
theorem hM_of {A : Nat → Nat → Int32} (h : rNow A) : ∃ k t, hM k t (A 75) ∧ A 4 0 = nI k ∧ A 10 0 = nI t := by
  obtain ⟨hi, ⟨k, k1, k2, k3, k4⟩, ⟨t, t1, t2, t3, t4⟩, hs⟩ := h
  refine ⟨k, t, ⟨k1, t1, k3, t3, fun j hj => ⟨(k4 j hj).2.2.1, ?_⟩, fun i hi => (t4 i hi).2⟩, k2, t2⟩
  rcases (k4 j hj).2.2.2.2.2 with q | q
  · exact Or.inl q.1
  · exact Or.inr q
theorem rH {A : Nat → Nat → Int32} (h : rNow A) {k : Nat} (hk : A 75 3 = nI k) (h12 : k ≤ 12) : ∀ j, j < k → (A 5 j = A 75 (15 + 5 * j) ∧ A 6 j = A 75 (16 + 5 * j) ∧ A 7 j = A 75 (17 + 5 * j) ∧ A 8 j = A 75 (18 + 5 * j) ∧ A 9 j = A 75 (19 + 5 * j)) ∧ (0 ≤ A 75 (15 + 5 * j) ∧ A 75 (15 + 5 * j) ≤ 5) ∧ (0 ≤ A 75 (16 + 5 * j) ∧ A 75 (16 + 5 * j) ≤ 8) ∧ (0 ≤ A 75 (17 + 5 * j) ∧ A 75 (17 + 5 * j) ≤ 9999) ∧ (0 ≤ A 75 (18 + 5 * j) ∧ A 75 (18 + 5 * j) ≤ 99) ∧ ((A 75 (19 + 5 * j) = 0 ∧ A 75 (17 + 5 * j) < A 75 0) ∨ A 75 (19 + 5 * j) = 1) := by
  obtain ⟨k', k1, k2, k3, k4⟩ := h.2.1
  have : k' = k := (nI_eq (by omega) (by omega)).mp (k3.symm.trans hk)
  subst this
  exact k4
theorem rD {A : Nat → Nat → Int32} (h : rNow A) {t : Nat} (hk : A 75 4 = nI t) (h12 : t ≤ 10) : ∀ j, j < t → (A 11 j = A 75 (75 + 2 * j) ∧ A 12 j = A 75 (76 + 2 * j)) ∧ 0 ≤ A 75 (75 + 2 * j) ∧ A 75 (75 + 2 * j) ≤ 8 := by
  obtain ⟨k', k1, k2, k3, k4⟩ := h.2.2.1
  have : k' = t := (nI_eq (by omega) (by omega)).mp (k3.symm.trans hk)
  subst this
  exact k4
theorem smX {A : Nat → Nat → Int32} (h : rNow A) {k : Nat} (hk : A 75 3 = nI k) (h12 : k ≤ 12) {j : Nat} (hj : j < k) (y : Int32) : sm (A 75) j y = SD (A 2 1) (A 3) (A 5 j) (A 6 j) (A 8 j) y := by
  have q := rH h hk h12 j hj
  unfold sm
  rw [q.1.1, q.1.2.1, q.1.2.2.2.1]
  exact SD_ice h.1 q.2.2.1.1 q.2.2.1.2
theorem sm_bX {A : Nat → Nat → Int32} (h : rNow A) {k : Nat} (hk : A 75 3 = nI k) (h12 : k ≤ 12) {j : Nat} (hj : j < k) (y : Int32) : 0 ≤ sm (A 75) j y ∧ sm (A 75) j y ≤ 93 := by
  have q := rH h hk h12 j hj
  exact sm_b h.1.2.2.2.2.2 q.2.2.1.1 q.2.2.1.2 q.2.2.2.2.1.1 q.2.2.2.2.1.2
theorem TR_bX {A : Nat → Nat → Int32} (h : rNow A) {k : Nat} (hk : A 75 3 = nI k) (h12 : k ≤ 12) {j : Nat} (hj : j < k) (n : Nat) : (0 ≤ (TR (A 75) j n).1 ∧ (TR (A 75) j n).1 ≤ 9999) ∧ (((TR (A 75) j n).2 = 0 ∧ (TR (A 75) j n).1 < A 75 0) ∨ (TR (A 75) j n).2 = 1) := by
  have q := rH h hk h12 j hj
  exact TR_b h.1.2.2.1.1 h.1.2.2.1.2 (sm_bX h hk h12 hj) q.2.2.2.1 q.2.2.2.2.2 n
/-! the deeds go -/
theorem lp_dgo {E : ME} {d : Nat} {A A0 : Nat → Nat → Int32} {B : Nat → Nat → Int64} {K : MK} {t : Nat} {y : Int32} (ht : t ≤ 10) (hx : A 10 0 = nI t) (hl : ∀ i, i < t → 0 ≤ A 11 i ∧ A 11 i ≤ 8) (P0 : Nat → Int32) (hK : ∀ P, (∀ i, i < t → P i = P0 i + fl (A 2 1) (A 3 (A 11 i).toNatClampNeg) y) → K none (SH, va_up A 12 P, B)) : ∀ v : Nat × (Nat → Int32), (v.1 ≤ t ∧ (∀ i, i < v.1 → v.2 i = P0 i + fl (A 2 1) (A 3 (A 11 i).toNatClampNeg) y) ∧ ∀ i, v.1 ≤ i → v.2 i = P0 i) → mSem E (d + 2) nX0_goYear (SH, A0, B) 0 0 K 2 [some (.ref 10), some (.ref 2), some (.int y), some (.int (nI v.1))] [] (SH, va_up A 12 v.2, B) := by
  refine mSem_loop (σ := Nat × (Nat → Int32)) (h0 := (SH, A0, B)) MX0_goYear rfl aX0_goYear 300 [2] (fun v => [some (.ref 10), some (.ref 2), some (.int y), some (.int (nI v.1))]) (fun v => (SH, va_up A 12 v.2, B)) (fun v => v.1 ≤ t ∧ (∀ i, i < v.1 → v.2 i = P0 i + fl (A 2 1) (A 3 (A 11 i).toNatClampNeg) y) ∧ ∀ i, v.1 ≤ i → v.2 i = P0 i) (fun v => t - v.1) ?_
  rintro ⟨j, P⟩ ⟨hj, h1, h2⟩ cl ax hcl hax hlp
  have hj : j ≤ t := hj
  have e8 : (nI j).toNatClampNeg = j := nI_clamp (by omega)
  refine ⟨fun (c0 : A 10 0 ≤ nI j) => ?_, fun (c0 : ¬ A 10 0 ≤ nI j) => ?_⟩
  · rw [hx, nI_leI (by omega) (by omega)] at c0
    have : j = t := by omega
    subst this
    exact hK P h1
  · rw [hx, nI_leI (by omega) (by omega)] at c0
    have hv : vp_in (nI j) 10 := vp_in_nI (by omega) (by decide)
    obtain ⟨q, hq, eq⟩ := ix_le 8 (hl j (by omega)).1 (hl j (by omega)).2 rfl
    refine ⟨hv, ?_⟩
    refine ⟨hv, ?_⟩
    refine hcl _ _ _ _ (w_flow q (by omega) (show A 11 (nI j).toNatClampNeg = nI q by rw [e8, eq]) ?_)
    refine ⟨hv, ?_⟩
    have this : ax 2 [some (.ref 10), some (.ref 2), some (.int y), some (.int (nI j + 1))] [] (SH, va_up A 12 (upd P (nI j).toNatClampNeg (P (nI j).toNatClampNeg + fl (A 2 1) (A 3 q) y)), B) := by
      rw [nI_1]
      refine hlp (j + 1, _) ⟨by show j + 1 ≤ t; omega, fun i hi => ?_, fun i hi => ?_⟩ (by show t - (j + 1) < t - j; omega)
      · have hi : i < j + 1 := hi
        show upd P _ _ i = _
        rw [e8]
        by_cases e : i = j
        · subst e
          rw [ud_s, eq, nI_clamp (by omega), show P i = P0 i from h2 i (Nat.le_refl _)]
        · rw [ud_n e]
          exact h1 i (show i < j by omega)
      · have hi : j + 1 ≤ i := hi
        show upd P _ _ i = _
        rw [e8, ud_n (by omega)]
        exact h2 i (show j ≤ i by omega)
    rw [← up_up (F := P)] at this
    exact this
theorem w_dgo {E : ME} {d : Nat} {A : Nat → Nat → Int32} {B : Nat → Nat → Int64} {K : MK} {t : Nat} {y : Int32} (ht : t ≤ 10) (hx : A 10 0 = nI t) (hl : ∀ i, i < t → 0 ≤ A 11 i ∧ A 11 i ≤ 8) (hK : ∀ P, (∀ i, i < t → P i = A 12 i + fl (A 2 1) (A 3 (A 11 i).toNatClampNeg) y) → K none (SH, va_up A 12 P, B)) : mCall E (d + 2) nX0_goYear [.ref 10, .ref 2, .int y] (SH, A, B) K := by
  refine mCall_sem MX0_goYear rfl rfl (Or.inl ⟨rfl, rfl, rfl⟩) rfl (mSem_wp MX0_goYear rfl aX0_goYear 300 [2] (fun cl ax hcl hax => ?_))
  have e : va_up A 12 (A 12) = A := by
    funext q
    unfold va_up
    split
    · rename_i c; rw [c]
    · rfl
  have this := lp_dgo (E := E) (d := d) (A := A) (A0 := A) (B := B) (K := K) ht hx hl (A 12) hK (0, A 12) ⟨by omega, fun q hq => absurd hq (by simp), fun _ _ => rfl⟩
  rw [e] at this
  exact hax _ _ _ _ this
theorem mb12 : ∀ j, j < 12 → ¬ ((4095 : Int32) >>> (nI j &&& 31)) &&& 1 = 0 := by decide
/-- n years in X's town, by the model's row N at the start -/
def XI (k t n : Nat) (N : Nat → Int32) (v : (Nat → Int32) × (Nat → Int32) × (Nat → Int32) × (Nat → Int32)) : Prop := (∀ j, j < k → (v.1 j, v.2.1 j) = TR N j n) ∧ (∀ i, i < t → v.2.2.1 i = TD N i n) ∧ v.2.2.2 0 = N 0 ∧ v.2.2.2 1 = N 2 ∧ v.2.2.2 2 = N 1 + nI n
def nb4 (A : Nat → Nat → Int32) (v : (Nat → Int32) × (Nat → Int32) × (Nat → Int32) × (Nat → Int32)) : Nat → Nat → Int32 := va_up (va_up (va_up (va_up A 7 v.1) 9 v.2.1) 12 v.2.2.1) 2 v.2.2.2
theorem up_n4 {A : Nat → Nat → Int32} {x1 x2 x3 x4 y1 y2 y3 y4 : Nat → Int32} : va_up (va_up (va_up (va_up (nb4 A (x1, x2, x3, x4)) 7 y1) 9 y2) 12 y3) 2 y4 = nb4 A (y1, y2, y3, y4) := by
  funext q
  unfold nb4 va_up
  by_cases h1 : q = 2
  · simp [h1]
  by_cases h2 : q = 12
  · simp [h2]
  by_cases h3 : q = 9
  · simp [h3]
  by_cases h4 : q = 7
  · simp [h4]
  simp [h1, h2, h3, h4]
theorem w_goOne {E : ME} {d : Nat} {A : Nat → Nat → Int32} {B : Nat → Nat → Int64} {K : MK} {k t n : Nat} (hm : hM k t (A 75)) (h : rNow A) (hx : A 4 0 = nI k) (hx2 : A 10 0 = nI t) (v : (Nat → Int32) × (Nat → Int32) × (Nat → Int32) × (Nat → Int32)) (hv : XI k t n (A 75) v) (hK : ∀ v, XI k t (n + 1) (A 75) v → K (some (.int (YC k (A 75) n))) (SH, nb4 A v, B)) : mCall E (d + 5) nX7_goOneYear [.ref 1] (SH, nb4 A v, B) K := by
  obtain ⟨F, G, P, I⟩ := v
  have hh := rH h hm.2.2.1 hm.1
  have hd := rD h hm.2.2.2.1 hm.2.1
  obtain ⟨v1, v2, v3, v4, v5⟩ := hv
  have v1 : ∀ j, j < k → (F j, G j) = TR (A 75) j n := v1
  have v2 : ∀ i, i < t → P i = TD (A 75) i n := v2
  have v3 : I 0 = A 75 0 := v3
  have v4 : I 1 = A 75 2 := v4
  have v5 : I 2 = A 75 1 + nI n := v5
  refine mCall_sem MX7_goOneYear rfl rfl (Or.inl ⟨rfl, rfl, rfl⟩) rfl (mSem_wp MX7_goOneYear rfl aX7_goOneYear 300 [] (fun cl ax hcl hax => ?_))
  refine hcl _ _ _ _ (w_goYear4 (A := nb4 A (F, G, P, I)) hm.1 hx (fun i hi => by
    show 0 ≤ A 6 i ∧ A 6 i ≤ 8
    rw [(hh i hi).1.2.1]; exact (hh i hi).2.2.1) (fun i => sm (A 75) i (A 75 1 + nI n)) (fun i hi => by
    show sm (A 75) i (A 75 1 + nI n) = SD (I 1) (A 3) (A 5 i) (A 6 i) (A 8 i) (I 2)
    rw [smX h hm.2.2.1 hm.1 hi, v5, v4, h.1.1.2.1]) (fun F2 G2 hFG => ?_))
  refine hcl _ _ _ _ (w_dgo (A := va_up (va_up (nb4 A (F, G, P, I)) 7 F2) 9 G2) hm.2.1 hx2 (fun i hi => by
    show 0 ≤ A 11 i ∧ A 11 i ≤ 8
    rw [(hd i hi).1.1]; exact (hd i hi).2) (fun P2 hP => ?_))
  have hc : su (Lx 4095 (I 0) (fun i => sm (A 75) i (A 75 1 + nI n)) F G) k = YC k (A 75) n := by
    unfold YC
    refine su_c k (fun i hi => ?_)
    unfold Lx
    rw [if_neg (mb12 i (by have := hm.1; omega)), v3, v1 i hi]
  have key := hK (F2, G2, P2, upd I 2 (I 2 + 1)) ⟨fun j hj => ?_, fun i hi => ?_, ?_, ?_, ?_⟩
  · rw [← up_n4 (x1 := F) (x2 := G) (x3 := P) (x4 := I), ← hc] at key
    exact key
  · have q := hFG j hj (mb12 j (by have := hm.1; omega))
    have q : (F2 j, G2 j) = st1 (I 0) (sm (A 75) j (A 75 1 + nI n)) (F j, G j) := q
    show (F2 j, G2 j) = _
    rw [q, v1 j hj, v3]
    rfl
  · have q := hP i hi
    have q : P2 i = P i + fl (I 1) (A 3 (A 11 i).toNatClampNeg) (I 2) := q
    show P2 i = _
    rw [q, v2 i hi, v4, v5]
    obtain ⟨p, hp, ep⟩ := ix_le 8 (hd i hi).2.1 (hd i hi).2.2 rfl
    rw [(hd i hi).1.1, ep, nI_clamp (by omega), h.1.2.1 p (by omega)]
    unfold TD
    rw [ep, nI_clamp (by omega)]
    rfl
  · exact v3
  · exact v4
  · show I 2 + 1 = _
    rw [v5, ← nI_1 n]
    grind
theorem lp_X8_years {E : ME} {d : Nat} {A : Nat → Nat → Int32} {B : Nat → Nat → Int64} {K : MK} {k t n : Nat} (hn : n ≤ 1000) (hm : hM k t (A 75)) (h : rNow A) (hx : A 4 0 = nI k) (hx2 : A 10 0 = nI t) (hK : ∀ v, XI k t n (A 75) v → K (some (.int (su (YC k (A 75)) n))) (SH, nb4 A v, B)) : ∀ v : Nat × (Nat → Int32) × (Nat → Int32) × (Nat → Int32) × (Nat → Int32), (v.1 ≤ n ∧ XI k t v.1 (A 75) v.2) → mSem E (d + 6) nX8_years (SH, A, B) 0 0 K 36 [some (.ref 0), some (.int (nI n)), some (.int (su (YC k (A 75)) v.1)), some (.int (nI v.1))] [] (SH, nb4 A v.2, B) := by
  refine mSem_loop (σ := Nat × (Nat → Int32) × (Nat → Int32) × (Nat → Int32) × (Nat → Int32)) (h0 := (SH, A, B)) MX8_years rfl aX8_years 300 [36] (fun v => [some (.ref 0), some (.int (nI n)), some (.int (su (YC k (A 75)) v.1)), some (.int (nI v.1))]) (fun v => (SH, nb4 A v.2, B)) (fun v => v.1 ≤ n ∧ XI k t v.1 (A 75) v.2) (fun v => n - v.1) ?_
  rintro ⟨j, v⟩ ⟨hj, hY⟩ cl ax hcl hax hlp
  have hj : j ≤ n := hj
  have hY : XI k t j (A 75) v := hY
  refine ⟨fun (c0 : nI n ≤ nI j) => ?_, fun (c0 : ¬ nI n ≤ nI j) => ?_⟩
  · rw [nI_leI (by omega) (by omega)] at c0
    have : j = n := by omega
    subst this
    exact hK v hY
  · rw [nI_leI (by omega) (by omega)] at c0
    refine hcl _ _ _ _ (w_goOne hm h hx hx2 v hY (fun v2 h2 => ?_))
    have this : ax 36 [some (.ref 0), some (.int (nI n)), some (.int (su (YC k (A 75)) (j + 1))), some (.int (nI (j + 1)))] [] (SH, nb4 A v2, B) := hlp (j + 1, v2) ⟨by show j + 1 ≤ n; omega, h2⟩ (by show n - (j + 1) < n - j; omega)
    rw [← nI_1, su] at this
    exact this
theorem nb4_self (A : Nat → Nat → Int32) : nb4 A (A 7, A 9, A 12, A 2) = A := by
  funext q
  unfold nb4 va_up
  split
  · rename_i c; rw [c]
  split
  · rename_i c; rw [c]
  split
  · rename_i c; rw [c]
  split
  · rename_i c; rw [c]
  rfl
theorem XI_0 {A : Nat → Nat → Int32} (h : rNow A) {k t : Nat} (hm : hM k t (A 75)) : XI k t 0 (A 75) (A 7, A 9, A 12, A 2) := by
  have hh := rH h hm.2.2.1 hm.1
  have hd := rD h hm.2.2.2.1 hm.2.1
  refine ⟨fun j hj => ?_, fun i hi => ?_, h.1.1.1, h.1.1.2.1, ?_⟩
  · exact Prod.ext (hh j hj).1.2.2.1 (hh j hj).1.2.2.2.2
  · exact (hd i hi).1.2
  · show A 2 2 = A 75 1 + 0
    rw [h.1.1.2.2]
    grind
theorem rAll_years {A : Nat → Nat → Int32} {B : Nat → Nat → Int64} (h : rAll A B) {k t n : Nat} (hm : hM k t (A 75)) (hx : A 4 0 = nI k) (hx2 : A 10 0 = nI t) {v : (Nat → Int32) × (Nat → Int32) × (Nat → Int32) × (Nat → Int32)} {N : Nat → Int32} (hv : XI k t n (A 75) v) (hN : YR k t n (A 75) N) (y0 : 0 ≤ A 75 1 + nI n) (y9 : A 75 1 + nI n ≤ 999) : rAll (va_up (nb4 A v) 75 N) B := by
  obtain ⟨F, G, P, I⟩ := v
  have hh := rH h.1 hm.2.2.1 hm.1
  have hd := rD h.1 hm.2.2.2.1 hm.2.1
  have tb := fun j (hj : j < k) => TR_bX h.1 hm.2.2.1 hm.1 hj n
  have nc : ∀ q, cst q → N q = A 75 q := hN.2.1
  have k12 := hm.1
  have t10 := hm.2.1
  obtain ⟨⟨hi, hho, hde, hs⟩, hk9, hf, ht, hsh⟩ := h
  obtain ⟨v1, v2, v3, v4, v5⟩ := hv
  refine ⟨⟨⟨⟨?_, ?_, ?_⟩, fun j hj => ?_, ?_, ?_, ?_, fun j hj => ?_⟩, ⟨k, hm.1, hx, ?_, fun j hj => ?_⟩, ⟨t, hm.2.1, hx2, ?_, fun i hi => ?_⟩, rSta_c hs rfl rfl rfl rfl rfl (fun q hq => nc q ⟨by omega, fun _ _ => by omega, fun _ _ => by omega⟩)⟩, hk9, hf, ht, hsh⟩
  · show I 0 = N 0
    rw [nc 0 ⟨by omega, fun _ _ => by omega, fun _ _ => by omega⟩]; exact v3
  · show I 1 = N 2
    rw [nc 2 ⟨by omega, fun _ _ => by omega, fun _ _ => by omega⟩]; exact v4
  · show I 2 = N 1
    rw [hN.1]; exact v5
  · show A 3 j = N (6 + j)
    rw [nc (6 + j) ⟨by omega, fun _ _ => by omega, fun _ _ => by omega⟩]; exact hi.2.1 j hj
  · show 100 ≤ N 0 ∧ N 0 ≤ 9999
    rw [nc 0 ⟨by omega, fun _ _ => by omega, fun _ _ => by omega⟩]; exact hi.2.2.1
  · show 0 ≤ N 1 ∧ N 1 ≤ 999
    rw [hN.1]; exact ⟨y0, y9⟩
  · show 0 ≤ N 2 ∧ N 2 ≤ 127
    rw [nc 2 ⟨by omega, fun _ _ => by omega, fun _ _ => by omega⟩]; exact hi.2.2.2.2.1
  · show 0 ≤ N (6 + j) ∧ N (6 + j) ≤ 60
    rw [nc (6 + j) ⟨by omega, fun _ _ => by omega, fun _ _ => by omega⟩]; exact hi.2.2.2.2.2 j hj
  · show N 3 = nI k
    rw [nc 3 ⟨by omega, fun _ _ => by omega, fun _ _ => by omega⟩]; exact hm.2.2.1
  · show (A 5 j = N (15 + 5 * j) ∧ A 6 j = N (16 + 5 * j) ∧ F j = N (17 + 5 * j) ∧ A 8 j = N (18 + 5 * j) ∧ G j = N (19 + 5 * j)) ∧ (0 ≤ N (15 + 5 * j) ∧ N (15 + 5 * j) ≤ 5) ∧ (0 ≤ N (16 + 5 * j) ∧ N (16 + 5 * j) ≤ 8) ∧ (0 ≤ N (17 + 5 * j) ∧ N (17 + 5 * j) ≤ 9999) ∧ (0 ≤ N (18 + 5 * j) ∧ N (18 + 5 * j) ≤ 99) ∧ ((N (19 + 5 * j) = 0 ∧ N (17 + 5 * j) < N 0) ∨ N (19 + 5 * j) = 1)
    have a := v1 j hj
    have b := hN.2.2.1 j hj
    have fa : F j = (TR (A 75) j n).1 := congrArg Prod.fst a
    have ga : G j = (TR (A 75) j n).2 := congrArg Prod.snd a
    have fb : N (17 + 5 * j) = (TR (A 75) j n).1 := congrArg Prod.fst b
    have gb : N (19 + 5 * j) = (TR (A 75) j n).2 := congrArg Prod.snd b
    rw [fa, ga, fb, gb, nc (15 + 5 * j) ⟨by omega, fun _ _ => by omega, fun _ _ => by omega⟩, nc (16 + 5 * j) ⟨by omega, fun _ _ => by omega, fun _ _ => by omega⟩, nc (18 + 5 * j) ⟨by omega, fun _ _ => by omega, fun _ _ => by omega⟩, nc 0 ⟨by omega, fun _ _ => by omega, fun _ _ => by omega⟩]
    have q := hh j hj
    exact ⟨⟨q.1.1, q.1.2.1, rfl, q.1.2.2.2.1, rfl⟩, q.2.1, q.2.2.1, (tb j hj).1, q.2.2.2.2.1, (tb j hj).2⟩
  · show N 4 = nI t
    rw [nc 4 ⟨by omega, fun _ _ => by omega, fun _ _ => by omega⟩]; exact hm.2.2.2.1
  · show (A 11 i = N (75 + 2 * i) ∧ P i = N (76 + 2 * i)) ∧ 0 ≤ N (75 + 2 * i) ∧ N (75 + 2 * i) ≤ 8
    rw [nc (75 + 2 * i) ⟨by omega, fun _ _ => by omega, fun _ _ => by omega⟩, hN.2.2.2 i hi]
    exact ⟨⟨(hd i hi).1.1, v2 i hi⟩, (hd i hi).2⟩
theorem op_years {E : ME} {u : Int32} {A : Nat → Nat → Int32} {B : Nat → Nat → Int64} (h : rAll A B) : rOp E nX8_years nX9_years [.int u] A B := by
  obtain ⟨k, t, hm, hx, hx2⟩ := hM_of h.1
  have hy : A 2 2 = A 75 1 := h.1.1.1.2.2
  have hy2 := h.1.1.2.2.2.1
  refine rOp_of (fun K hK => ?_)
  refine mCall_sem MX8_years rfl rfl (Or.inl ⟨rfl, rfl, rfl⟩) rfl (mSem_wp MX8_years rfl aX8_years 300 [36] (fun cl ax hcl hax => ?_))
  refine hcl _ _ _ _ (w_X8 (fun b1 b2 => ?_) (fun b0 => ?_))
  · refine ⟨fun _ => ?_, fun h9 => absurd h9 (by decide)⟩
    obtain ⟨n, hn, rfl⟩ := ix_le 50 (by grind) b2 rfl
    have n0 : 0 ≤ nI n := by grind
    refine hcl _ _ _ _ (w_X8_isPast (y := A 75 1) hy (fun c => ?_) (fun c => ?_))
    · refine ⟨fun h9 => absurd h9 (by decide), fun _ => ?_⟩
      refine hcl _ _ _ _ (w_X8_refuse 4 (by decide) (by decide) ?_)
      refine hK _ _ ?_
      clear hcl hax
      clear cl ax
      refine mCall_k (fun K hK => ?_)
      refine mCall_sem MX9_years rfl rfl (Or.inl ⟨rfl, rfl, rfl⟩) rfl (mSem_wp MX9_years rfl aX9_years 300 [] (fun cl ax hcl hax => ?_))
      refine hcl _ _ _ _ (w_X9 (fun _ _ => ?_) (fun c0 => absurd (And.intro b1 b2) c0))
      refine ⟨fun _ => ?_, fun h9 => absurd h9 (by decide)⟩
      refine ⟨vl 1 rfl rfl, ?_⟩
      refine ⟨fun (c2 : A 75 1 + nI n ≤ 999) => ?_, fun _ => ?_⟩
      · exfalso
        clear hcl hax hK
        grind
      exact hcl _ _ _ _ (w_X9_finding 4 (by decide) (by decide) (hK _ _ (rEnd_cnt h (by decide))))
    · refine ⟨fun _ => ?_, fun h9 => absurd h9 (by decide)⟩
      have this := lp_X8_years (E := E) (d := 6) (B := B) (K := K) (n := n) (by omega) hm h.1 hx hx2 (fun v hv => ?_) (0, A 7, A 9, A 12, A 2) ⟨by omega, XI_0 h.1 hm⟩
      · rw [show (0, A 7, A 9, A 12, A 2).2 = (A 7, A 9, A 12, A 2) from rfl, nb4_self] at this
        exact hax _ _ _ _ this
      · refine hK _ _ ?_
        clear hcl hax
        clear cl ax
        refine mCall_k (fun K hK => ?_)
        refine mCall_sem MX9_years rfl rfl (Or.inl ⟨rfl, rfl, rfl⟩) rfl (mSem_wp MX9_years rfl aX9_years 300 [] (fun cl ax hcl hax => ?_))
        refine hcl _ _ _ _ (w_X9 (fun _ _ => ?_) (fun c0 => absurd (And.intro b1 b2) c0))
        refine ⟨fun _ => ?_, fun h9 => absurd h9 (by decide)⟩
        refine ⟨vl 1 rfl rfl, ?_⟩
        refine ⟨fun _ => ?_, fun (c2 : ¬ A 75 1 + nI n ≤ 999) => ?_⟩
        · refine hcl _ _ _ _ (w_yearsGo (A := nb4 A v) (by omega) hm (fun N hN => ?_))
          refine hK _ _ ⟨rfl, rfl, ?_⟩
          exact rAll_years h hm hx hx2 hv hN (by clear hcl hax hK; grind) (by clear hcl hax hK; grind)
        · exfalso
          clear hcl hax hK
          grind
  · refine ⟨fun h9 => absurd h9 (by decide), fun _ => ?_⟩
    refine hcl _ _ _ _ (w_X8_refuse 0 (by decide) (by decide) ?_)
    refine hK _ _ ?_
    clear hcl hax
    clear cl ax
    refine mCall_k (fun K hK => ?_)
    refine mCall_sem MX9_years rfl rfl (Or.inl ⟨rfl, rfl, rfl⟩) rfl (mSem_wp MX9_years rfl aX9_years 300 [] (fun cl ax hcl hax => ?_))
    refine hcl _ _ _ _ (w_X9 (fun c1 c2 => absurd (And.intro c1 c2) b0) (fun _ => ?_))
    refine ⟨fun h9 => absurd h9 (by decide), fun _ => ?_⟩
    exact hcl _ _ _ _ (w_X9_finding 0 (by decide) (by decide) (hK _ _ (rEnd_cnt h (by decide))))
