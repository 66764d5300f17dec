/-! lays -/
theorem gd_b {x : Int64} (h0 : 0 ≤ x) (h1 : x ≤ 60) : 0 ≤ x.toInt32 ∧ x.toInt32 ≤ 60 := by
  have a : 0 ≤ x.toInt := Int64.le_iff_toInt_le.mp h0
  have b : x.toInt ≤ 60 := Int64.le_iff_toInt_le.mp h1
  have e : x.toInt32.toInt = x.toInt := by
    rw [Int64.toInt_toInt32]
    exact Int.bmod_eq_of_le (by omega) (by omega)
  constructor
  · apply Int32.le_iff_toInt_le.mpr
    rw [e]
    exact a
  · apply Int32.le_iff_toInt_le.mpr
    rw [e]
    exact b
abbrev gd (x : Int64) : Prop := ¬ lg_cmp x 0 < 0 ∧ ¬ 0 < lg_cmp x 60
theorem gd_i {x : Int64} (h : gd x) : 0 ≤ x.toInt32 ∧ x.toInt32 ≤ 60 := by
  obtain ⟨a, b⟩ := h
  refine gd_b ?_ ?_
  · unfold lg_cmp at a
    split at a
    · grind
    · split at a
      · grind
      · exact absurd (by decide) a
  · unfold lg_cmp at b
    split at b
    · exact absurd (by decide) b
    · grind
def pv (L : Nat → Int64) (P0 : Nat → Int32) (q : Nat) : Int32 := if gd (L q) then (L q).toInt32 else P0 q
def pc (L : Nat → Int64) (q : Nat) : Int32 := if gd (L q) then 1 else 0
def lI (m : Nat) (L : Nat → Int64) (P0 : Nat → Int32) (j : Nat) (P : Nat → Int32) : Prop := j ≤ m ∧ (∀ q, q < j → P q = pv L P0 q) ∧ ∀ q, j ≤ q → P q = P0 q
theorem lp_X8_lays65 {E : ME} {d : Nat} {A A0 : Nat → Nat → Int32} {B : Nat → Nat → Int64} {K : MK} {v : Int32} {k m : Nat} (hk : k ≤ 40) (ek : A 65 1 = nI k) (hm : m = min 9 k) (hK : ∀ P, lI m (B 66) (A 3) m P → K (some (.int (su (pc (B 66)) m))) (SH, va_up A 3 P, B)) : ∀ p : Nat × Option Value × (Nat → Int32), lI m (B 66) (A 3) p.1 p.2.2 → mSem E d nX8_lays (SH, A0, B) 0 0 K 41 [some (.ref 0), some (.int v), some (.ref 65), some (.int (su (pc (B 66)) p.1)), some (.int (nI p.1)), p.2.1, none] [] (SH, va_up A 3 p.2.2, B) := by
  refine mSem_loop (σ := Nat × Option Value × (Nat → Int32)) (h0 := (SH, A0, B)) MX8_lays rfl aX8_lays 300 [41] (fun p => [some (.ref 0), some (.int v), some (.ref 65), some (.int (su (pc (B 66)) p.1)), some (.int (nI p.1)), p.2.1, none]) (fun p => (SH, va_up A 3 p.2.2, B)) (fun p => lI m (B 66) (A 3) p.1 p.2.2) (fun p => m - p.1) ?_
  rintro ⟨j, x, P⟩ hI cl ax hcl hax hlp
  have hI : lI m (B 66) (A 3) j P := hI
  obtain ⟨hj, h1, h2⟩ := hI
  have e8 : (nI j).toNatClampNeg = j := nI_clamp (by omega)
  refine ⟨fun (c : nI 9 ≤ nI j) => ?_, fun (c : ¬ nI 9 ≤ nI j) => ?_⟩
  · rw [nI_leI (by omega) (by omega)] at c
    have : j = m := by omega
    subst this
    exact hK P ⟨hj, h1, h2⟩
  rw [nI_leI (by omega) (by omega)] at c
  refine ⟨fun (c1 : A 65 1 ≤ nI j) => ?_, fun (c1 : ¬ A 65 1 ≤ nI j) => ?_⟩
  · rw [ek, nI_leI (by omega) (by omega)] at c1
    have : j = m := by omega
    subst this
    exact hK P ⟨hj, h1, h2⟩
  rw [ek, nI_leI (by omega) (by omega)] at c1
  have no : ¬ gd (B 66 j) → ∀ x, ax 41 [some (.ref 0), some (.int v), some (.ref 65), some (.int (su (pc (B 66)) j)), some (.int (nI j + 1)), x, none] [] (SH, va_up A 3 P, B) := fun q x => by
    have this : ax 41 [some (.ref 0), some (.int v), some (.ref 65), some (.int (su (pc (B 66)) (j + 1))), some (.int (nI (j + 1))), x, none] [] (SH, va_up A 3 P, B) := hlp (j + 1, x, P) ⟨by show j + 1 ≤ m; omega, fun i hi => by
      have hi : i < j + 1 := hi
      show P i = _
      by_cases e : i = j
      · subst e; rw [h2 i (Nat.le_refl _), pv, if_neg q]
      · exact h1 i (by omega), fun i hi => h2 i (by have hi : j + 1 ≤ i := hi; omega)⟩ (by show m - (j + 1) < m - j; omega)
    rw [su, show pc (B 66) j = 0 by unfold pc; rw [if_neg q], show su (pc (B 66)) j + 0 = su (pc (B 66)) j by clear hcl hax hlp hK; grind, ← nI_1] at this
    exact this
  refine ⟨vp_in_nI (N := 40) (by omega) (by decide), ?_⟩
  refine ⟨fun (c2 : lg_cmp (B 66 (nI j).toNatClampNeg) 0 < 0) => ?_, fun (c2 : ¬ lg_cmp (B 66 (nI j).toNatClampNeg) 0 < 0) => ?_⟩
  · rw [e8] at c2
    exact no (fun q => q.1 c2) _
  refine ⟨fun (c3 : 0 < lg_cmp (B 66 (nI j).toNatClampNeg) 60) => ?_, fun (c3 : ¬ 0 < lg_cmp (B 66 (nI j).toNatClampNeg) 60) => ?_⟩
  · rw [e8] at c3
    exact no (fun q => q.2 c3) _
  have q : gd (B 66 j) := ⟨by rw [e8] at c2; exact c2, by rw [e8] at c3; exact c3⟩
  refine ⟨vp_in_nI (N := 9) (by omega) (by decide), ?_⟩
  have this : ∀ x, ax 41 [some (.ref 0), some (.int v), some (.ref 65), some (.int (su (pc (B 66)) (j + 1))), some (.int (nI (j + 1))), x, none] [] (SH, va_up A 3 (upd P (nI j).toNatClampNeg (B 66 (nI j).toNatClampNeg).toInt32), B) := fun x => hlp (j + 1, x, _) ⟨by show j + 1 ≤ m; omega, fun i hi => by
    have hi : i < j + 1 := hi
    show upd P _ _ i = _
    rw [e8]
    by_cases e : i = j
    · subst e; rw [ud_s, pv, if_pos q]
    · rw [ud_n e]; exact h1 i (by omega), fun i hi => by
    have hi : j + 1 ≤ i := hi
    show upd P _ _ i = _
    rw [e8, ud_n (by omega)]; exact h2 i (by omega)⟩ (by show m - (j + 1) < m - j; omega)
  rw [su, show pc (B 66) j = 1 by unfold pc; rw [if_pos q], ← nI_1, ← up_up (F := P)] at this
  exact this _
theorem lp_X8_lays67 {E : ME} {d : Nat} {A A0 : Nat → Nat → Int32} {B : Nat → Nat → Int64} {K : MK} {v : Int32} {k m : Nat} (hk : k ≤ 40) (ek : A 67 1 = nI k) (hm : m = min 9 k) (hK : ∀ P, lI m (B 68) (A 3) m P → K (some (.int (su (pc (B 68)) m))) (SH, va_up A 3 P, B)) : ∀ p : Nat × Option Value × (Nat → Int32), lI m (B 68) (A 3) p.1 p.2.2 → mSem E d nX8_lays (SH, A0, B) 0 0 K 41 [some (.ref 0), some (.int v), some (.ref 67), some (.int (su (pc (B 68)) p.1)), some (.int (nI p.1)), p.2.1, none] [] (SH, va_up A 3 p.2.2, B) := by
  refine mSem_loop (σ := Nat × Option Value × (Nat → Int32)) (h0 := (SH, A0, B)) MX8_lays rfl aX8_lays 300 [41] (fun p => [some (.ref 0), some (.int v), some (.ref 67), some (.int (su (pc (B 68)) p.1)), some (.int (nI p.1)), p.2.1, none]) (fun p => (SH, va_up A 3 p.2.2, B)) (fun p => lI m (B 68) (A 3) p.1 p.2.2) (fun p => m - p.1) ?_
  rintro ⟨j, x, P⟩ hI cl ax hcl hax hlp
  have hI : lI m (B 68) (A 3) j P := hI
  obtain ⟨hj, h1, h2⟩ := hI
  have e8 : (nI j).toNatClampNeg = j := nI_clamp (by omega)
  refine ⟨fun (c : nI 9 ≤ nI j) => ?_, fun (c : ¬ nI 9 ≤ nI j) => ?_⟩
  · rw [nI_leI (by omega) (by omega)] at c
    have : j = m := by omega
    subst this
    exact hK P ⟨hj, h1, h2⟩
  rw [nI_leI (by omega) (by omega)] at c
  refine ⟨fun (c1 : A 67 1 ≤ nI j) => ?_, fun (c1 : ¬ A 67 1 ≤ nI j) => ?_⟩
  · rw [ek, nI_leI (by omega) (by omega)] at c1
    have : j = m := by omega
    subst this
    exact hK P ⟨hj, h1, h2⟩
  rw [ek, nI_leI (by omega) (by omega)] at c1
  have no : ¬ gd (B 68 j) → ∀ x, ax 41 [some (.ref 0), some (.int v), some (.ref 67), some (.int (su (pc (B 68)) j)), some (.int (nI j + 1)), x, none] [] (SH, va_up A 3 P, B) := fun q x => by
    have this : ax 41 [some (.ref 0), some (.int v), some (.ref 67), some (.int (su (pc (B 68)) (j + 1))), some (.int (nI (j + 1))), x, none] [] (SH, va_up A 3 P, B) := hlp (j + 1, x, P) ⟨by show j + 1 ≤ m; omega, fun i hi => by
      have hi : i < j + 1 := hi
      show P i = _
      by_cases e : i = j
      · subst e; rw [h2 i (Nat.le_refl _), pv, if_neg q]
      · exact h1 i (by omega), fun i hi => h2 i (by have hi : j + 1 ≤ i := hi; omega)⟩ (by show m - (j + 1) < m - j; omega)
    rw [su, show pc (B 68) j = 0 by unfold pc; rw [if_neg q], show su (pc (B 68)) j + 0 = su (pc (B 68)) j by clear hcl hax hlp hK; grind, ← nI_1] at this
    exact this
  refine ⟨vp_in_nI (N := 40) (by omega) (by decide), ?_⟩
  refine ⟨fun (c2 : lg_cmp (B 68 (nI j).toNatClampNeg) 0 < 0) => ?_, fun (c2 : ¬ lg_cmp (B 68 (nI j).toNatClampNeg) 0 < 0) => ?_⟩
  · rw [e8] at c2
    exact no (fun q => q.1 c2) _
  refine ⟨fun (c3 : 0 < lg_cmp (B 68 (nI j).toNatClampNeg) 60) => ?_, fun (c3 : ¬ 0 < lg_cmp (B 68 (nI j).toNatClampNeg) 60) => ?_⟩
  · rw [e8] at c3
    exact no (fun q => q.2 c3) _
  have q : gd (B 68 j) := ⟨by rw [e8] at c2; exact c2, by rw [e8] at c3; exact c3⟩
  refine ⟨vp_in_nI (N := 9) (by omega) (by decide), ?_⟩
  have this : ∀ x, ax 41 [some (.ref 0), some (.int v), some (.ref 67), some (.int (su (pc (B 68)) (j + 1))), some (.int (nI (j + 1))), x, none] [] (SH, va_up A 3 (upd P (nI j).toNatClampNeg (B 68 (nI j).toNatClampNeg).toInt32), B) := fun x => hlp (j + 1, x, _) ⟨by show j + 1 ≤ m; omega, fun i hi => by
    have hi : i < j + 1 := hi
    show upd P _ _ i = _
    rw [e8]
    by_cases e : i = j
    · subst e; rw [ud_s, pv, if_pos q]
    · rw [ud_n e]; exact h1 i (by omega), fun i hi => by
    have hi : j + 1 ≤ i := hi
    show upd P _ _ i = _
    rw [e8, ud_n (by omega)]; exact h2 i (by omega)⟩ (by show m - (j + 1) < m - j; omega)
  rw [su, show pc (B 68) j = 1 by unfold pc; rw [if_pos q], ← nI_1, ← up_up (F := P)] at this
  exact this _
theorem lp_X8_lays69 {E : ME} {d : Nat} {A A0 : Nat → Nat → Int32} {B : Nat → Nat → Int64} {K : MK} {v : Int32} {k m : Nat} (hk : k ≤ 40) (ek : A 69 1 = nI k) (hm : m = min 9 k) (hK : ∀ P, lI m (B 70) (A 3) m P → K (some (.int (su (pc (B 70)) m))) (SH, va_up A 3 P, B)) : ∀ p : Nat × Option Value × (Nat → Int32), lI m (B 70) (A 3) p.1 p.2.2 → mSem E d nX8_lays (SH, A0, B) 0 0 K 41 [some (.ref 0), some (.int v), some (.ref 69), some (.int (su (pc (B 70)) p.1)), some (.int (nI p.1)), p.2.1, none] [] (SH, va_up A 3 p.2.2, B) := by
  refine mSem_loop (σ := Nat × Option Value × (Nat → Int32)) (h0 := (SH, A0, B)) MX8_lays rfl aX8_lays 300 [41] (fun p => [some (.ref 0), some (.int v), some (.ref 69), some (.int (su (pc (B 70)) p.1)), some (.int (nI p.1)), p.2.1, none]) (fun p => (SH, va_up A 3 p.2.2, B)) (fun p => lI m (B 70) (A 3) p.1 p.2.2) (fun p => m - p.1) ?_
  rintro ⟨j, x, P⟩ hI cl ax hcl hax hlp
  have hI : lI m (B 70) (A 3) j P := hI
  obtain ⟨hj, h1, h2⟩ := hI
  have e8 : (nI j).toNatClampNeg = j := nI_clamp (by omega)
  refine ⟨fun (c : nI 9 ≤ nI j) => ?_, fun (c : ¬ nI 9 ≤ nI j) => ?_⟩
  · rw [nI_leI (by omega) (by omega)] at c
    have : j = m := by omega
    subst this
    exact hK P ⟨hj, h1, h2⟩
  rw [nI_leI (by omega) (by omega)] at c
  refine ⟨fun (c1 : A 69 1 ≤ nI j) => ?_, fun (c1 : ¬ A 69 1 ≤ nI j) => ?_⟩
  · rw [ek, nI_leI (by omega) (by omega)] at c1
    have : j = m := by omega
    subst this
    exact hK P ⟨hj, h1, h2⟩
  rw [ek, nI_leI (by omega) (by omega)] at c1
  have no : ¬ gd (B 70 j) → ∀ x, ax 41 [some (.ref 0), some (.int v), some (.ref 69), some (.int (su (pc (B 70)) j)), some (.int (nI j + 1)), x, none] [] (SH, va_up A 3 P, B) := fun q x => by
    have this : ax 41 [some (.ref 0), some (.int v), some (.ref 69), some (.int (su (pc (B 70)) (j + 1))), some (.int (nI (j + 1))), x, none] [] (SH, va_up A 3 P, B) := hlp (j + 1, x, P) ⟨by show j + 1 ≤ m; omega, fun i hi => by
      have hi : i < j + 1 := hi
      show P i = _
      by_cases e : i = j
      · subst e; rw [h2 i (Nat.le_refl _), pv, if_neg q]
      · exact h1 i (by omega), fun i hi => h2 i (by have hi : j + 1 ≤ i := hi; omega)⟩ (by show m - (j + 1) < m - j; omega)
    rw [su, show pc (B 70) j = 0 by unfold pc; rw [if_neg q], show su (pc (B 70)) j + 0 = su (pc (B 70)) j by clear hcl hax hlp hK; grind, ← nI_1] at this
    exact this
  refine ⟨vp_in_nI (N := 40) (by omega) (by decide), ?_⟩
  refine ⟨fun (c2 : lg_cmp (B 70 (nI j).toNatClampNeg) 0 < 0) => ?_, fun (c2 : ¬ lg_cmp (B 70 (nI j).toNatClampNeg) 0 < 0) => ?_⟩
  · rw [e8] at c2
    exact no (fun q => q.1 c2) _
  refine ⟨fun (c3 : 0 < lg_cmp (B 70 (nI j).toNatClampNeg) 60) => ?_, fun (c3 : ¬ 0 < lg_cmp (B 70 (nI j).toNatClampNeg) 60) => ?_⟩
  · rw [e8] at c3
    exact no (fun q => q.2 c3) _
  have q : gd (B 70 j) := ⟨by rw [e8] at c2; exact c2, by rw [e8] at c3; exact c3⟩
  refine ⟨vp_in_nI (N := 9) (by omega) (by decide), ?_⟩
  have this : ∀ x, ax 41 [some (.ref 0), some (.int v), some (.ref 69), some (.int (su (pc (B 70)) (j + 1))), some (.int (nI (j + 1))), x, none] [] (SH, va_up A 3 (upd P (nI j).toNatClampNeg (B 70 (nI j).toNatClampNeg).toInt32), B) := fun x => hlp (j + 1, x, _) ⟨by show j + 1 ≤ m; omega, fun i hi => by
    have hi : i < j + 1 := hi
    show upd P _ _ i = _
    rw [e8]
    by_cases e : i = j
    · subst e; rw [ud_s, pv, if_pos q]
    · rw [ud_n e]; exact h1 i (by omega), fun i hi => by
    have hi : j + 1 ≤ i := hi
    show upd P _ _ i = _
    rw [e8, ud_n (by omega)]; exact h2 i (by omega)⟩ (by show m - (j + 1) < m - j; omega)
  rw [su, show pc (B 70) j = 1 by unfold pc; rw [if_pos q], ← nI_1, ← up_up (F := P)] at this
  exact this _
theorem lp_X8_lays71 {E : ME} {d : Nat} {A A0 : Nat → Nat → Int32} {B : Nat → Nat → Int64} {K : MK} {v : Int32} {k m : Nat} (hk : k ≤ 40) (ek : A 71 1 = nI k) (hm : m = min 9 k) (hK : ∀ P, lI m (B 72) (A 3) m P → K (some (.int (su (pc (B 72)) m))) (SH, va_up A 3 P, B)) : ∀ p : Nat × Option Value × (Nat → Int32), lI m (B 72) (A 3) p.1 p.2.2 → mSem E d nX8_lays (SH, A0, B) 0 0 K 41 [some (.ref 0), some (.int v), some (.ref 71), some (.int (su (pc (B 72)) p.1)), some (.int (nI p.1)), p.2.1, none] [] (SH, va_up A 3 p.2.2, B) := by
  refine mSem_loop (σ := Nat × Option Value × (Nat → Int32)) (h0 := (SH, A0, B)) MX8_lays rfl aX8_lays 300 [41] (fun p => [some (.ref 0), some (.int v), some (.ref 71), some (.int (su (pc (B 72)) p.1)), some (.int (nI p.1)), p.2.1, none]) (fun p => (SH, va_up A 3 p.2.2, B)) (fun p => lI m (B 72) (A 3) p.1 p.2.2) (fun p => m - p.1) ?_
  rintro ⟨j, x, P⟩ hI cl ax hcl hax hlp
  have hI : lI m (B 72) (A 3) j P := hI
  obtain ⟨hj, h1, h2⟩ := hI
  have e8 : (nI j).toNatClampNeg = j := nI_clamp (by omega)
  refine ⟨fun (c : nI 9 ≤ nI j) => ?_, fun (c : ¬ nI 9 ≤ nI j) => ?_⟩
  · rw [nI_leI (by omega) (by omega)] at c
    have : j = m := by omega
    subst this
    exact hK P ⟨hj, h1, h2⟩
  rw [nI_leI (by omega) (by omega)] at c
  refine ⟨fun (c1 : A 71 1 ≤ nI j) => ?_, fun (c1 : ¬ A 71 1 ≤ nI j) => ?_⟩
  · rw [ek, nI_leI (by omega) (by omega)] at c1
    have : j = m := by omega
    subst this
    exact hK P ⟨hj, h1, h2⟩
  rw [ek, nI_leI (by omega) (by omega)] at c1
  have no : ¬ gd (B 72 j) → ∀ x, ax 41 [some (.ref 0), some (.int v), some (.ref 71), some (.int (su (pc (B 72)) j)), some (.int (nI j + 1)), x, none] [] (SH, va_up A 3 P, B) := fun q x => by
    have this : ax 41 [some (.ref 0), some (.int v), some (.ref 71), some (.int (su (pc (B 72)) (j + 1))), some (.int (nI (j + 1))), x, none] [] (SH, va_up A 3 P, B) := hlp (j + 1, x, P) ⟨by show j + 1 ≤ m; omega, fun i hi => by
      have hi : i < j + 1 := hi
      show P i = _
      by_cases e : i = j
      · subst e; rw [h2 i (Nat.le_refl _), pv, if_neg q]
      · exact h1 i (by omega), fun i hi => h2 i (by have hi : j + 1 ≤ i := hi; omega)⟩ (by show m - (j + 1) < m - j; omega)
    rw [su, show pc (B 72) j = 0 by unfold pc; rw [if_neg q], show su (pc (B 72)) j + 0 = su (pc (B 72)) j by clear hcl hax hlp hK; grind, ← nI_1] at this
    exact this
  refine ⟨vp_in_nI (N := 40) (by omega) (by decide), ?_⟩
  refine ⟨fun (c2 : lg_cmp (B 72 (nI j).toNatClampNeg) 0 < 0) => ?_, fun (c2 : ¬ lg_cmp (B 72 (nI j).toNatClampNeg) 0 < 0) => ?_⟩
  · rw [e8] at c2
    exact no (fun q => q.1 c2) _
  refine ⟨fun (c3 : 0 < lg_cmp (B 72 (nI j).toNatClampNeg) 60) => ?_, fun (c3 : ¬ 0 < lg_cmp (B 72 (nI j).toNatClampNeg) 60) => ?_⟩
  · rw [e8] at c3
    exact no (fun q => q.2 c3) _
  have q : gd (B 72 j) := ⟨by rw [e8] at c2; exact c2, by rw [e8] at c3; exact c3⟩
  refine ⟨vp_in_nI (N := 9) (by omega) (by decide), ?_⟩
  have this : ∀ x, ax 41 [some (.ref 0), some (.int v), some (.ref 71), some (.int (su (pc (B 72)) (j + 1))), some (.int (nI (j + 1))), x, none] [] (SH, va_up A 3 (upd P (nI j).toNatClampNeg (B 72 (nI j).toNatClampNeg).toInt32), B) := fun x => hlp (j + 1, x, _) ⟨by show j + 1 ≤ m; omega, fun i hi => by
    have hi : i < j + 1 := hi
    show upd P _ _ i = _
    rw [e8]
    by_cases e : i = j
    · subst e; rw [ud_s, pv, if_pos q]
    · rw [ud_n e]; exact h1 i (by omega), fun i hi => by
    have hi : j + 1 ≤ i := hi
    show upd P _ _ i = _
    rw [e8, ud_n (by omega)]; exact h2 i (by omega)⟩ (by show m - (j + 1) < m - j; omega)
  rw [su, show pc (B 72) j = 1 by unfold pc; rw [if_pos q], ← nI_1, ← up_up (F := P)] at this
  exact this _
