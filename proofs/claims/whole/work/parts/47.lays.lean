/-! lays -/
theorem gd_b {x : Int64} (h0 : 0 ≤ x) (h1 : x ≤ 60) : 0 ≤ x.toInt32 ∧ x.toInt32 ≤ 60 := by
  have a : 0 ≤ x.toInt := Int64.le_iff_toInt_le.mp h0
  have b : x.toInt ≤ 60 := Int64.le_iff_toInt_le.mp h1
  have e : x.toInt32.toInt = x.toInt := by
    rw [Int64.toInt_toInt32]
    exact Int.bmod_eq_of_le (by omega) (by omega)
  constructor
  · apply Int32.le_iff_toInt_le.mpr
    rw [e]
    exact a
  · apply Int32.le_iff_toInt_le.mpr
    rw [e]
    exact b
abbrev gd (x : Int64) : Prop := ¬ lg_cmp x 0 < 0 ∧ ¬ 0 < lg_cmp x 60
theorem gd_i {x : Int64} (h : gd x) : 0 ≤ x.toInt32 ∧ x.toInt32 ≤ 60 := by
  obtain ⟨a, b⟩ := h
  refine gd_b ?_ ?_
  · unfold lg_cmp at a
    split at a
    · grind
    · split at a
      · grind
      · exact absurd (by decide) a
  · unfold lg_cmp at b
    split at b
    · exact absurd (by decide) b
    · grind
def pv (L : Nat → Int64) (P0 : Nat → Int32) (q : Nat) : Int32 := if gd (L q) then (L q).toInt32 else P0 q
def pc (L : Nat → Int64) (q : Nat) : Int32 := if gd (L q) then 1 else 0
def lI (m : Nat) (L : Nat → Int64) (P0 : Nat → Int32) (j : Nat) (P : Nat → Int32) : Prop := j ≤ m ∧ (∀ q, q < j → P q = pv L P0 q) ∧ ∀ q, j ≤ q → P q = P0 q
theorem lp_X8_lays65 {E : ME} {d : Nat} {A A0 : Nat → Nat → Int32} {B : Nat → Nat → Int64} {K : MK} {v : Int32} {k m : Nat} (hk : k ≤ 40) (ek : A 65 1 = nI k) (hm : m = min 9 k) (hK : ∀ P, lI m (B 66) (A 3) m P → K (some (.int (su (pc (B 66)) m))) (SH, va_up A 3 P, B)) : ∀ p : Nat × Option Value × (Nat → Int32), lI m (B 66) (A 3) p.1 p.2.2 → mSem E d nX8_lays (SH, A0, B) 0 0 K 41 [some (.ref 0), some (.int v), some (.ref 65), some (.int (su (pc (B 66)) p.1)), some (.int (nI p.1)), p.2.1, none] [] (SH, va_up A 3 p.2.2, B) := by
  refine mSem_loop (σ := Nat × Option Value × (Nat → Int32)) (h0 := (SH, A0, B)) MX8_lays rfl aX8_lays 300 [41] (fun p => [some (.ref 0), some (.int v), some (.ref 65), some (.int (su (pc (B 66)) p.1)), some (.int (nI p.1)), p.2.1, none]) (fun p => (SH, va_up A 3 p.2.2, B)) (fun p => lI m (B 66) (A 3) p.1 p.2.2) (fun p => m - p.1) ?_
  rintro ⟨j, x, P⟩ hI cl ax hcl hax hlp
  have hI : lI m (B 66) (A 3) j P := hI
  obtain ⟨hj, h1, h2⟩ := hI
  have e8 : (nI j).toNatClampNeg = j := nI_clamp (by omega)
  refine ⟨fun (c : nI 9 ≤ nI j) => ?_, fun (c : ¬ nI 9 ≤ nI j) => ?_⟩
  · rw [nI_leI (by omega) (by omega)] at c
    have : j = m := by omega
    subst this
    exact hK P ⟨hj, h1, h2⟩
  rw [nI_leI (by omega) (by omega)] at c
  refine ⟨fun (c1 : A 65 1 ≤ nI j) => ?_, fun (c1 : ¬ A 65 1 ≤ nI j) => ?_⟩
  · rw [ek, nI_leI (by omega) (by omega)] at c1
    have : j = m := by omega
    subst this
    exact hK P ⟨hj, h1, h2⟩
  rw [ek, nI_leI (by omega) (by omega)] at c1
  have no : ¬ gd (B 66 j) → ∀ x, ax 41 [some (.ref 0), some (.int v), some (.ref 65), some (.int (su (pc (B 66)) j)), some (.int (nI j + 1)), x, none] [] (SH, va_up A 3 P, B) := fun q x => by
    have this : ax 41 [some (.ref 0), some (.int v), some (.ref 65), some (.int (su (pc (B 66)) (j + 1))), some (.int (nI (j + 1))), x, none] [] (SH, va_up A 3 P, B) := hlp (j + 1, x, P) ⟨by show j + 1 ≤ m; omega, fun i hi => by
      have hi : i < j + 1 := hi
      show P i = _
      by_cases e : i = j
      · subst e; rw [h2 i (Nat.le_refl _), pv, if_neg q]
      · exact h1 i (by omega), fun i hi => h2 i (by have hi : j + 1 ≤ i := hi; omega)⟩ (by show m - (j + 1) < m - j; omega)
    rw [su, show pc (B 66) j = 0 by unfold pc; rw [if_neg q], show su (pc (B 66)) j + 0 = su (pc (B 66)) j by clear hcl hax hlp hK; grind, ← nI_1] at this
    exact this
  refine ⟨vp_in_nI (N := 40) (by omega) (by decide), ?_⟩
  refine ⟨fun (c2 : lg_cmp (B 66 (nI j).toNatClampNeg) 0 < 0) => ?_, fun (c2 : ¬ lg_cmp (B 66 (nI j).toNatClampNeg) 0 < 0) => ?_⟩
  · rw [e8] at c2
    exact no (fun q => q.1 c2) _
  refine ⟨fun (c3 : 0 < lg_cmp (B 66 (nI j).toNatClampNeg) 60) => ?_, fun (c3 : ¬ 0 < lg_cmp (B 66 (nI j).toNatClampNeg) 60) => ?_⟩
  · rw [e8] at c3
    exact no (fun q => q.2 c3) _
  have q : gd (B 66 j) := ⟨by rw [e8] at c2; exact c2, by rw [e8] at c3; exact c3⟩
  refine ⟨vp_in_nI (N := 9) (by omega) (by decide), ?_⟩
  have this : ∀ x, ax 41 [some (.ref 0), some (.int v), some (.ref 65), some (.int (su (pc (B 66)) (j + 1))), some (.int (nI (j + 1))), x, none] [] (SH, va_up A 3 (upd P (nI j).toNatClampNeg (B 66 (nI j).toNatClampNeg).toInt32), B) := fun x => hlp (j + 1, x, _) ⟨by show j + 1 ≤ m; omega, fun i hi => by
    have hi : i < j + 1 := hi
    show upd P _ _ i = _
    rw [e8]
    by_cases e : i = j
    · subst e; rw [ud_s, pv, if_pos q]
    · rw [ud_n e]; exact h1 i (by omega), fun i hi => by
    have hi : j + 1 ≤ i := hi
    show upd P _ _ i = _
    rw [e8, ud_n (by omega)]; exact h2 i (by omega)⟩ (by show m - (j + 1) < m - j; omega)
  rw [su, show pc (B 66) j = 1 by unfold pc; rw [if_pos q], ← nI_1, ← up_up (F := P)] at this
  exact this _
theorem lp_X8_lays67 {E : ME} {d : Nat} {A A0 : Nat → Nat → Int32} {B : Nat → Nat → Int64} {K : MK} {v : Int32} {k m : Nat} (hk : k ≤ 40) (ek : A 67 1 = nI k) (hm : m = min 9 k) (hK : ∀ P, lI m (B 68) (A 3) m P → K (some (.int (su (pc (B 68)) m))) (SH, va_up A 3 P, B)) : ∀ p : Nat × Option Value × (Nat → Int32), lI m (B 68) (A 3) p.1 p.2.2 → mSem E d nX8_lays (SH, A0, B) 0 0 K 41 [some (.ref 0), some (.int v), some (.ref 67), some (.int (su (pc (B 68)) p.1)), some (.int (nI p.1)), p.2.1, none] [] (SH, va_up A 3 p.2.2, B) := by
  refine mSem_loop (σ := Nat × Option Value × (Nat → Int32)) (h0 := (SH, A0, B)) MX8_lays rfl aX8_lays 300 [41] (fun p => [some (.ref 0), some (.int v), some (.ref 67), some (.int (su (pc (B 68)) p.1)), some (.int (nI p.1)), p.2.1, none]) (fun p => (SH, va_up A 3 p.2.2, B)) (fun p => lI m (B 68) (A 3) p.1 p.2.2) (fun p => m - p.1) ?_
  rintro ⟨j, x, P⟩ hI cl ax hcl hax hlp
  have hI : lI m (B 68) (A 3) j P := hI
  obtain ⟨hj, h1, h2⟩ := hI
  have e8 : (nI j).toNatClampNeg = j := nI_clamp (by omega)
  refine ⟨fun (c : nI 9 ≤ nI j) => ?_, fun (c : ¬ nI 9 ≤ nI j) => ?_⟩
  · rw [nI_leI (by omega) (by omega)] at c
    have : j = m := by omega
    subst this
    exact hK P ⟨hj, h1, h2⟩
  rw [nI_leI (by omega) (by omega)] at c
  refine ⟨fun (c1 : A 67 1 ≤ nI j) => ?_, fun (c1 : ¬ A 67 1 ≤ nI j) => ?_⟩
  · rw [ek, nI_leI (by omega) (by omega)] at c1
    have : j = m := by omega
    subst this
    exact hK P ⟨hj, h1, h2⟩
  rw [ek, nI_leI (by omega) (by omega)] at c1
  have no : ¬ gd (B 68 j) → ∀ x, ax 41 [some (.ref 0), some (.int v), some (.ref 67), some (.int (su (pc (B 68)) j)), some (.int (nI j + 1)), x, none] [] (SH, va_up A 3 P, B) := fun q x => by
    have this : ax 41 [some (.ref 0), some (.int v), some (.ref 67), some (.int (su (pc (B 68)) (j + 1))), some (.int (nI (j + 1))), x, none] [] (SH, va_up A 3 P, B) := hlp (j + 1, x, P) ⟨by show j + 1 ≤ m; omega, fun i hi => by
      have hi : i < j + 1 := hi
      show P i = _
      by_cases e : i = j
      · subst e; rw [h2 i (Nat.le_refl _), pv, if_neg q]
      · exact h1 i (by omega), fun i hi => h2 i (by have hi : j + 1 ≤ i := hi; omega)⟩ (by show m - (j + 1) < m - j; omega)
    rw [su, show pc (B 68) j = 0 by unfold pc; rw [if_neg q], show su (pc (B 68)) j + 0 = su (pc (B 68)) j by clear hcl hax hlp hK; grind, ← nI_1] at this
    exact this
  refine ⟨vp_in_nI (N := 40) (by omega) (by decide), ?_⟩
  refine ⟨fun (c2 : lg_cmp (B 68 (nI j).toNatClampNeg) 0 < 0) => ?_, fun (c2 : ¬ lg_cmp (B 68 (nI j).toNatClampNeg) 0 < 0) => ?_⟩
  · rw [e8] at c2
    exact no (fun q => q.1 c2) _
  refine ⟨fun (c3 : 0 < lg_cmp (B 68 (nI j).toNatClampNeg) 60) => ?_, fun (c3 : ¬ 0 < lg_cmp (B 68 (nI j).toNatClampNeg) 60) => ?_⟩
  · rw [e8] at c3
    exact no (fun q => q.2 c3) _
  have q : gd (B 68 j) := ⟨by rw [e8] at c2; exact c2, by rw [e8] at c3; exact c3⟩
  refine ⟨vp_in_nI (N := 9) (by omega) (by decide), ?_⟩
  have this : ∀ x, ax 41 [some (.ref 0), some (.int v), some (.ref 67), some (.int (su (pc (B 68)) (j + 1))), some (.int (nI (j + 1))), x, none] [] (SH, va_up A 3 (upd P (nI j).toNatClampNeg (B 68 (nI j).toNatClampNeg).toInt32), B) := fun x => hlp (j + 1, x, _) ⟨by show j + 1 ≤ m; omega, fun i hi => by
    have hi : i < j + 1 := hi
    show upd P _ _ i = _
    rw [e8]
    by_cases e : i = j
    · subst e; rw [ud_s, pv, if_pos q]
    · rw [ud_n e]; exact h1 i (by omega), fun i hi => by
    have hi : j + 1 ≤ i := hi
    show upd P _ _ i = _
    rw [e8, ud_n (by omega)]; exact h2 i (by omega)⟩ (by show m - (j + 1) < m - j; omega)
  rw [su, show pc (B 68) j = 1 by unfold pc; rw [if_pos q], ← nI_1, ← up_up (F := P)] at this
  exact this _
theorem lp_X8_lays69 {E : ME} {d : Nat} {A A0 : Nat → Nat → Int32} {B : Nat → Nat → Int64} {K : MK} {v : Int32} {k m : Nat} (hk : k ≤ 40) (ek : A 69 1 = nI k) (hm : m = min 9 k) (hK : ∀ P, lI m (B 70) (A 3) m P → K (some (.int (su (pc (B 70)) m))) (SH, va_up A 3 P, B)) : ∀ p : Nat × Option Value × (Nat → Int32), lI m (B 70) (A 3) p.1 p.2.2 → mSem E d nX8_lays (SH, A0, B) 0 0 K 41 [some (.ref 0), some (.int v), some (.ref 69), some (.int (su (pc (B 70)) p.1)), some (.int (nI p.1)), p.2.1, none] [] (SH, va_up A 3 p.2.2, B) := by
  refine mSem_loop (σ := Nat × Option Value × (Nat → Int32)) (h0 := (SH, A0, B)) MX8_lays rfl aX8_lays 300 [41] (fun p => [some (.ref 0), some (.int v), some (.ref 69), some (.int (su (pc (B 70)) p.1)), some (.int (nI p.1)), p.2.1, none]) (fun p => (SH, va_up A 3 p.2.2, B)) (fun p => lI m (B 70) (A 3) p.1 p.2.2) (fun p => m - p.1) ?_
  rintro ⟨j, x, P⟩ hI cl ax hcl hax hlp
  have hI : lI m (B 70) (A 3) j P := hI
  obtain ⟨hj, h1, h2⟩ := hI
  have e8 : (nI j).toNatClampNeg = j := nI_clamp (by omega)
  refine ⟨fun (c : nI 9 ≤ nI j) => ?_, fun (c : ¬ nI 9 ≤ nI j) => ?_⟩
  · rw [nI_leI (by omega) (by omega)] at c
    have : j = m := by omega
    subst this
    exact hK P ⟨hj, h1, h2⟩
  rw [nI_leI (by omega) (by omega)] at c
  refine ⟨fun (c1 : A 69 1 ≤ nI j) => ?_, fun (c1 : ¬ A 69 1 ≤ nI j) => ?_⟩
  · rw [ek, nI_leI (by omega) (by omega)] at c1
    have : j = m := by omega
    subst this
    exact hK P ⟨hj, h1, h2⟩
  rw [ek, nI_leI (by omega) (by omega)] at c1
  have no : ¬ gd (B 70 j) → ∀ x, ax 41 [some (.ref 0), some (.int v), some (.ref 69), some (.int (su (pc (B 70)) j)), some (.int (nI j + 1)), x, none] [] (SH, va_up A 3 P, B) := fun q x => by
    have this : ax 41 [some (.ref 0), some (.int v), some (.ref 69), some (.int (su (pc (B 70)) (j + 1))), some (.int (nI (j + 1))), x, none] [] (SH, va_up A 3 P, B) := hlp (j + 1, x, P) ⟨by show j + 1 ≤ m; omega, fun i hi => by
      have hi : i < j + 1 := hi
      show P i = _
      by_cases e : i = j
      · subst e; rw [h2 i (Nat.le_refl _), pv, if_neg q]
      · exact h1 i (by omega), fun i hi => h2 i (by have hi : j + 1 ≤ i := hi; omega)⟩ (by show m - (j + 1) < m - j; omega)
    rw [su, show pc (B 70) j = 0 by unfold pc; rw [if_neg q], show su (pc (B 70)) j + 0 = su (pc (B 70)) j by clear hcl hax hlp hK; grind, ← nI_1] at this
    exact this
  refine ⟨vp_in_nI (N := 40) (by omega) (by decide), ?_⟩
  refine ⟨fun (c2 : lg_cmp (B 70 (nI j).toNatClampNeg) 0 < 0) => ?_, fun (c2 : ¬ lg_cmp (B 70 (nI j).toNatClampNeg) 0 < 0) => ?_⟩
  · rw [e8] at c2
    exact no (fun q => q.1 c2) _
  refine ⟨fun (c3 : 0 < lg_cmp (B 70 (nI j).toNatClampNeg) 60) => ?_, fun (c3 : ¬ 0 < lg_cmp (B 70 (nI j).toNatClampNeg) 60) => ?_⟩
  · rw [e8] at c3
    exact no (fun q => q.2 c3) _
  have q : gd (B 70 j) := ⟨by rw [e8] at c2; exact c2, by rw [e8] at c3; exact c3⟩
  refine ⟨vp_in_nI (N := 9) (by omega) (by decide), ?_⟩
  have this : ∀ x, ax 41 [some (.ref 0), some (.int v), some (.ref 69), some (.int (su (pc (B 70)) (j + 1))), some (.int (nI (j + 1))), x, none] [] (SH, va_up A 3 (upd P (nI j).toNatClampNeg (B 70 (nI j).toNatClampNeg).toInt32), B) := fun x => hlp (j + 1, x, _) ⟨by show j + 1 ≤ m; omega, fun i hi => by
    have hi : i < j + 1 := hi
    show upd P _ _ i = _
    rw [e8]
    by_cases e : i = j
    · subst e; rw [ud_s, pv, if_pos q]
    · rw [ud_n e]; exact h1 i (by omega), fun i hi => by
    have hi : j + 1 ≤ i := hi
    show upd P _ _ i = _
    rw [e8, ud_n (by omega)]; exact h2 i (by omega)⟩ (by show m - (j + 1) < m - j; omega)
  rw [su, show pc (B 70) j = 1 by unfold pc; rw [if_pos q], ← nI_1, ← up_up (F := P)] at this
  exact this _
theorem lp_X8_lays71 {E : ME} {d : Nat} {A A0 : Nat → Nat → Int32} {B : Nat → Nat → Int64} {K : MK} {v : Int32} {k m : Nat} (hk : k ≤ 40) (ek : A 71 1 = nI k) (hm : m = min 9 k) (hK : ∀ P, lI m (B 72) (A 3) m P → K (some (.int (su (pc (B 72)) m))) (SH, va_up A 3 P, B)) : ∀ p : Nat × Option Value × (Nat → Int32), lI m (B 72) (A 3) p.1 p.2.2 → mSem E d nX8_lays (SH, A0, B) 0 0 K 41 [some (.ref 0), some (.int v), some (.ref 71), some (.int (su (pc (B 72)) p.1)), some (.int (nI p.1)), p.2.1, none] [] (SH, va_up A 3 p.2.2, B) := by
  refine mSem_loop (σ := Nat × Option Value × (Nat → Int32)) (h0 := (SH, A0, B)) MX8_lays rfl aX8_lays 300 [41] (fun p => [some (.ref 0), some (.int v), some (.ref 71), some (.int (su (pc (B 72)) p.1)), some (.int (nI p.1)), p.2.1, none]) (fun p => (SH, va_up A 3 p.2.2, B)) (fun p => lI m (B 72) (A 3) p.1 p.2.2) (fun p => m - p.1) ?_
  rintro ⟨j, x, P⟩ hI cl ax hcl hax hlp
  have hI : lI m (B 72) (A 3) j P := hI
  obtain ⟨hj, h1, h2⟩ := hI
  have e8 : (nI j).toNatClampNeg = j := nI_clamp (by omega)
  refine ⟨fun (c : nI 9 ≤ nI j) => ?_, fun (c : ¬ nI 9 ≤ nI j) => ?_⟩
  · rw [nI_leI (by omega) (by omega)] at c
    have : j = m := by omega
    subst this
    exact hK P ⟨hj, h1, h2⟩
  rw [nI_leI (by omega) (by omega)] at c
  refine ⟨fun (c1 : A 71 1 ≤ nI j) => ?_, fun (c1 : ¬ A 71 1 ≤ nI j) => ?_⟩
  · rw [ek, nI_leI (by omega) (by omega)] at c1
    have : j = m := by omega
    subst this
    exact hK P ⟨hj, h1, h2⟩
  rw [ek, nI_leI (by omega) (by omega)] at c1
  have no : ¬ gd (B 72 j) → ∀ x, ax 41 [some (.ref 0), some (.int v), some (.ref 71), some (.int (su (pc (B 72)) j)), some (.int (nI j + 1)), x, none] [] (SH, va_up A 3 P, B) := fun q x => by
    have this : ax 41 [some (.ref 0), some (.int v), some (.ref 71), some (.int (su (pc (B 72)) (j + 1))), some (.int (nI (j + 1))), x, none] [] (SH, va_up A 3 P, B) := hlp (j + 1, x, P) ⟨by show j + 1 ≤ m; omega, fun i hi => by
      have hi : i < j + 1 := hi
      show P i = _
      by_cases e : i = j
      · subst e; rw [h2 i (Nat.le_refl _), pv, if_neg q]
      · exact h1 i (by omega), fun i hi => h2 i (by have hi : j + 1 ≤ i := hi; omega)⟩ (by show m - (j + 1) < m - j; omega)
    rw [su, show pc (B 72) j = 0 by unfold pc; rw [if_neg q], show su (pc (B 72)) j + 0 = su (pc (B 72)) j by clear hcl hax hlp hK; grind, ← nI_1] at this
    exact this
  refine ⟨vp_in_nI (N := 40) (by omega) (by decide), ?_⟩
  refine ⟨fun (c2 : lg_cmp (B 72 (nI j).toNatClampNeg) 0 < 0) => ?_, fun (c2 : ¬ lg_cmp (B 72 (nI j).toNatClampNeg) 0 < 0) => ?_⟩
  · rw [e8] at c2
    exact no (fun q => q.1 c2) _
  refine ⟨fun (c3 : 0 < lg_cmp (B 72 (nI j).toNatClampNeg) 60) => ?_, fun (c3 : ¬ 0 < lg_cmp (B 72 (nI j).toNatClampNeg) 60) => ?_⟩
  · rw [e8] at c3
    exact no (fun q => q.2 c3) _
  have q : gd (B 72 j) := ⟨by rw [e8] at c2; exact c2, by rw [e8] at c3; exact c3⟩
  refine ⟨vp_in_nI (N := 9) (by omega) (by decide), ?_⟩
  have this : ∀ x, ax 41 [some (.ref 0), some (.int v), some (.ref 71), some (.int (su (pc (B 72)) (j + 1))), some (.int (nI (j + 1))), x, none] [] (SH, va_up A 3 (upd P (nI j).toNatClampNeg (B 72 (nI j).toNatClampNeg).toInt32), B) := fun x => hlp (j + 1, x, _) ⟨by show j + 1 ≤ m; omega, fun i hi => by
    have hi : i < j + 1 := hi
    show upd P _ _ i = _
    rw [e8]
    by_cases e : i = j
    · subst e; rw [ud_s, pv, if_pos q]
    · rw [ud_n e]; exact h1 i (by omega), fun i hi => by
    have hi : j + 1 ≤ i := hi
    show upd P _ _ i = _
    rw [e8, ud_n (by omega)]; exact h2 i (by omega)⟩ (by show m - (j + 1) < m - j; omega)
  rw [su, show pc (B 72) j = 1 by unfold pc; rw [if_pos q], ← nI_1, ← up_up (F := P)] at this
  exact this _
def lM (m : Nat) (L : Nat → Int64) (N0 : Nat → Int32) (j : Nat) (N : Nat → Int32) : Prop := j ≤ m ∧ (∀ q, q < j → N (6 + q) = pv L (fun q => N0 (6 + q)) q) ∧ ∀ p, ¬ (6 ≤ p ∧ p < 6 + j) → N p = N0 p
theorem lp_X9_lays {E : ME} {d : Nat} {A A0 : Nat → Nat → Int32} {B : Nat → Nat → Int64} {K : MK} {s k m : Nat} (hs : s < 4) (hk : k ≤ 40) (ek : A 83 s = nI k) (hm : m = min 9 k) (N0 : Nat → Int32) (hK : ∀ N, lM m (fun q => B 84 (40 * s + q)) N0 m N → K (some (.int (su (pc (fun q => B 84 (40 * s + q))) m))) (SH, va_up A 75 N, B)) : ∀ p : Nat × Option Value × (Nat → Int32), lM m (fun q => B 84 (40 * s + q)) N0 p.1 p.2.2 → mSem E d nX9_lays (SH, A0, B) 0 0 K 35 [some (.ref 74), some (.int (nI s)), some (.int (su (pc (fun q => B 84 (40 * s + q))) p.1)), some (.int (nI p.1)), p.2.1, none] [] (SH, va_up A 75 p.2.2, B) := by
  refine mSem_loop (σ := Nat × Option Value × (Nat → Int32)) (h0 := (SH, A0, B)) MX9_lays rfl aX9_lays 300 [35] (fun p => [some (.ref 74), some (.int (nI s)), some (.int (su (pc (fun q => B 84 (40 * s + q))) p.1)), some (.int (nI p.1)), p.2.1, none]) (fun p => (SH, va_up A 75 p.2.2, B)) (fun p => lM m (fun q => B 84 (40 * s + q)) N0 p.1 p.2.2) (fun p => m - p.1) ?_
  rintro ⟨j, x, N⟩ hI cl ax hcl hax hlp
  have hI : lM m (fun q => B 84 (40 * s + q)) N0 j N := hI
  obtain ⟨hj, h1, h2⟩ := hI
  have es : (nI s).toNatClampNeg = s := nI_clamp (by omega)
  have e8 : (40 * nI s + nI j).toNatClampNeg = 40 * s + j := by rw [zIx]; exact nI_clamp (by omega)
  have e6 : ((6 : Int32) + nI j).toNatClampNeg = 6 + j := by rw [show (6 : Int32) + nI j = nI (6 + j) from nI_add 6 j]; exact nI_clamp (by omega)
  refine ⟨vp_in_nI (N := 4) (by omega) (by decide), ?_⟩
  refine ⟨fun (c1 : A 83 (nI s).toNatClampNeg ≤ nI j) => ?_, fun (c1 : ¬ A 83 (nI s).toNatClampNeg ≤ nI j) => ?_⟩
  · rw [es, ek, nI_leI (by omega) (by omega)] at c1
    have : j = m := by omega
    subst this
    exact hK N ⟨hj, h1, h2⟩
  rw [es, ek, nI_leI (by omega) (by omega)] at c1
  refine ⟨fun (c : nI 9 ≤ nI j) => ?_, fun (c : ¬ nI 9 ≤ nI j) => ?_⟩
  · rw [nI_leI (by omega) (by omega)] at c
    have : j = m := by omega
    subst this
    exact hK N ⟨hj, h1, h2⟩
  rw [nI_leI (by omega) (by omega)] at c
  have no : ¬ gd (B 84 (40 * s + j)) → ∀ x, ax 35 [some (.ref 74), some (.int (nI s)), some (.int (su (pc (fun q => B 84 (40 * s + q))) j)), some (.int (nI j + 1)), x, none] [] (SH, va_up A 75 N, B) := fun q x => by
    have this : ax 35 [some (.ref 74), some (.int (nI s)), some (.int (su (pc (fun q => B 84 (40 * s + q))) (j + 1))), some (.int (nI (j + 1))), x, none] [] (SH, va_up A 75 N, B) := hlp (j + 1, x, N) ⟨by show j + 1 ≤ m; omega, fun i hi => by
      have hi : i < j + 1 := hi
      show N (6 + i) = _
      by_cases e : i = j
      · subst e; rw [h2 (6 + i) (by omega), pv, if_neg q]
      · exact h1 i (by omega), fun p hp => h2 p (by have hp : ¬ (6 ≤ p ∧ p < 6 + (j + 1)) := hp; omega)⟩ (by show m - (j + 1) < m - j; omega)
    rw [su, show pc (fun q => B 84 (40 * s + q)) j = 0 by unfold pc; rw [if_neg q], show su (pc (fun q => B 84 (40 * s + q))) j + 0 = su (pc (fun q => B 84 (40 * s + q))) j by clear hcl hax hlp hK; grind, ← nI_1] at this
    exact this
  refine ⟨show vp_in (40 * nI s + nI j) 160 by rw [zIx]; exact vp_in_nI (by omega) (by decide), ?_⟩
  refine ⟨fun (c2 : lg_cmp (B 84 (40 * nI s + nI j).toNatClampNeg) 0 < 0) => ?_, fun (c2 : ¬ lg_cmp (B 84 (40 * nI s + nI j).toNatClampNeg) 0 < 0) => ?_⟩
  · rw [e8] at c2
    exact no (fun q => q.1 c2) _
  refine ⟨fun (c3 : 0 < lg_cmp (B 84 (40 * nI s + nI j).toNatClampNeg) 60) => ?_, fun (c3 : ¬ 0 < lg_cmp (B 84 (40 * nI s + nI j).toNatClampNeg) 60) => ?_⟩
  · rw [e8] at c3
    exact no (fun q => q.2 c3) _
  have q : gd (B 84 (40 * s + j)) := ⟨by rw [e8] at c2; exact c2, by rw [e8] at c3; exact c3⟩
  refine ⟨show vp_in (6 + nI j) 135 by rw [show (6 : Int32) + nI j = nI (6 + j) from nI_add 6 j]; exact vp_in_nI (by omega) (by decide), ?_⟩
  have this : ∀ x, ax 35 [some (.ref 74), some (.int (nI s)), some (.int (su (pc (fun q => B 84 (40 * s + q))) (j + 1))), some (.int (nI (j + 1))), x, none] [] (SH, va_up A 75 (upd N (6 + nI j).toNatClampNeg (B 84 (40 * nI s + nI j).toNatClampNeg).toInt32), B) := fun x => hlp (j + 1, x, _) ⟨by show j + 1 ≤ m; omega, fun i hi => by
    have hi : i < j + 1 := hi
    show upd N _ _ (6 + i) = _
    rw [e6, e8]
    by_cases e : i = j
    · subst e; rw [ud_s, pv, if_pos q]
    · rw [ud_n (by omega)]; exact h1 i (by omega), fun p hp => by
    have hp : ¬ (6 ≤ p ∧ p < 6 + (j + 1)) := hp
    show upd N _ _ p = _
    rw [e6, ud_n (by omega)]; exact h2 p (by omega)⟩ (by show m - (j + 1) < m - j; omega)
  rw [su, show pc (fun q => B 84 (40 * s + q)) j = 1 by unfold pc; rw [if_pos q], ← nI_1, ← up_up (F := N)] at this
  exact this _
theorem rAll_lays {A : Nat → Nat → Int32} {B : Nat → Nat → Int64} (h : rAll A B) {m : Nat} (hm : m ≤ 9) {L L2 : Nat → Int64} (hL : ∀ q, q < m → L q = L2 q) {P N : Nat → Int32} (hP : lI m L (A 3) m P) (hN : lM m L2 (A 75) m N) : rAll (va_up (va_up A 3 P) 75 N) B := by
  obtain ⟨⟨hi, hh, hd, hs⟩, hk9, hf, ht, hsh⟩ := h
  have n := hN.2.2
  refine ⟨⟨?_, rHou_c hh rfl rfl rfl rfl rfl rfl (fun q hq => n q (by omega)), rDee_c hd rfl rfl rfl (fun q hq => n q (by omega)), rSta_c hs rfl rfl rfl rfl rfl (fun q hq => n q (by omega))⟩, hk9, hf, ht, hsh⟩
  obtain ⟨⟨e1, e2, e3⟩, e4, e5, e6, e7, e8⟩ := hi
  refine ⟨⟨?_, ?_, ?_⟩, fun j hj => ?_, ?_, ?_, ?_, fun j hj => ?_⟩
  · show A 2 0 = N 0
    rw [n 0 (by omega)]; exact e1
  · show A 2 1 = N 2
    rw [n 2 (by omega)]; exact e2
  · show A 2 2 = N 1
    rw [n 1 (by omega)]; exact e3
  · show P j = N (6 + j)
    by_cases c : j < m
    · rw [hP.2.1 j c, hN.2.1 j c]
      unfold pv
      rw [hL j c, e4 j hj]
    · rw [hP.2.2 j (by omega), n (6 + j) (by omega)]; exact e4 j hj
  · show 100 ≤ N 0 ∧ N 0 ≤ 9999
    rw [n 0 (by omega)]; exact e5
  · show 0 ≤ N 1 ∧ N 1 ≤ 999
    rw [n 1 (by omega)]; exact e6
  · show 0 ≤ N 2 ∧ N 2 ≤ 127
    rw [n 2 (by omega)]; exact e7
  · show 0 ≤ N (6 + j) ∧ N (6 + j) ≤ 60
    by_cases c : j < m
    · rw [hN.2.1 j c]
      unfold pv
      split
      · exact gd_i (by assumption)
      · exact e8 j hj
    · rw [n (6 + j) (by omega)]; exact e8 j hj
