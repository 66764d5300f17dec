/-! lies it straight: X -/
def LI2 (T : (Nat → Int32) × (Nat → Int32) × (Nat → Int32)) (l : Nat) (lo hi : Int32) : Prop := (∀ m, m < l → T.2.2 m = 1 → T.2.1 m - T.1 m ≤ 5) ∧ (∀ m, m + 1 < l → ADJ T.2.2 m → lo ≤ T.1 (m + 1) - T.2.1 m ∧ T.2.1 (m + 1) - T.1 m ≤ hi) ∧ ((lo = 9999 ∧ hi = -9999 ∧ ∀ m, m + 1 < l → ¬ ADJ T.2.2 m) ∨ ((∃ m, m + 1 < l ∧ ADJ T.2.2 m ∧ lo = T.1 (m + 1) - T.2.1 m) ∧ ∃ m, m + 1 < l ∧ ADJ T.2.2 m ∧ hi = T.2.1 (m + 1) - T.1 m))
theorem LI2_no {T : (Nat → Int32) × (Nat → Int32) × (Nat → Int32)} {l : Nat} {lo hi : Int32} (h : LI2 T l lo hi) (h5 : T.2.2 l = 1 → T.2.1 l - T.1 l ≤ 5) (ha : ∀ m, m + 1 = l → ¬ ADJ T.2.2 m) : LI2 T (l + 1) lo hi := by
  obtain ⟨h1, h2, h3⟩ := h
  have ne : ∀ m, m + 1 < l + 1 → ADJ T.2.2 m → m + 1 < l := fun m hm am => by
    rcases Nat.lt_or_ge (m + 1) l with q | q
    · exact q
    · exact absurd am (ha m (by omega))
  refine ⟨fun m hm t => ?_, fun m hm am => h2 m (ne m hm am) am, ?_⟩
  · rcases Nat.lt_or_ge m l with q | q
    · exact h1 m q t
    · rw [show m = l by omega] at t ⊢
      exact h5 t
  · rcases h3 with ⟨q1, q2, q3⟩ | ⟨⟨m, m1, m2⟩, ⟨n, n1, n2⟩⟩
    · exact Or.inl ⟨q1, q2, fun m hm am => q3 m (ne m hm am) am⟩
    · exact Or.inr ⟨⟨m, by omega, m2⟩, ⟨n, by omega, n2⟩⟩
theorem LI2_adj {T : (Nat → Int32) × (Nat → Int32) × (Nat → Int32)} {l : Nat} {lo hi : Int32} (h : LI2 T (l + 1) lo hi) (tb : TB T) (hl : l + 1 < 9) (h5 : T.2.1 (l + 1) - T.1 (l + 1) ≤ 5) (ha : ADJ T.2.2 l) : LI2 T (l + 1 + 1) (mn lo (T.1 (l + 1) - T.2.1 l)) (mx hi (T.2.1 (l + 1) - T.1 l)) := by
  obtain ⟨h1, h2, h3⟩ := h
  have u1 := (tb _ hl).2 ha.1
  have u2 := (tb l (by omega)).2 ha.2
  refine ⟨fun m hm t => ?_, fun m hm am => ?_, ?_⟩
  · rcases Nat.lt_or_ge m (l + 1) with q | q
    · exact h1 m q t
    · rw [show m = l + 1 by omega]
      exact h5
  · rcases Nat.lt_or_ge (m + 1) (l + 1) with q | q
    · have z := h2 m q am
      unfold mn mx
      clear h1 h2 h3 tb
      grind
    · rw [show m = l by omega]
      unfold mn mx
      clear h1 h2 h3 tb
      grind
  · refine Or.inr ⟨?_, ?_⟩
    · unfold mn
      split
      · exact ⟨l, by omega, ha, rfl⟩
      · rename_i c
        rcases h3 with ⟨q1, q2, q3⟩ | ⟨⟨m, m1, m2⟩, _⟩
        · exfalso
          clear h1 h2 q3 tb
          grind
        · exact ⟨m, by omega, m2⟩
    · unfold mx
      split
      · exact ⟨l, by omega, ha, rfl⟩
      · rename_i c
        rcases h3 with ⟨q1, q2, q3⟩ | ⟨_, ⟨m, m1, m2⟩⟩
        · exfalso
          clear h1 h2 q3 tb
          grind
        · exact ⟨m, by omega, m2⟩
theorem LI2_end {T : (Nat → Int32) × (Nat → Int32) × (Nat → Int32)} {lo hi : Int32} (h : LI2 T 9 lo hi) (tb : TB T) : hi - lo ≤ 5 ↔ LSt T := by
  obtain ⟨h1, h2, h3⟩ := h
  constructor
  · intro q
    refine ⟨h1, fun m n hm hn am an => ?_⟩
    have z1 := h2 m hm am
    have z2 := h2 n hn an
    have u1 := (tb _ hm).2 am.1
    have u2 := (tb m (by omega)).2 am.2
    have u3 := (tb _ hn).2 an.1
    have u4 := (tb n (by omega)).2 an.2
    rcases h3 with ⟨_, _, q3⟩ | ⟨⟨x, x1, x2, x3⟩, ⟨y, y1, y2, y3⟩⟩
    · exact absurd am (q3 m hm)
    · have v1 := (tb _ x1).2 x2.1
      have v2 := (tb x (by omega)).2 x2.2
      have v3 := (tb _ y1).2 y2.1
      have v4 := (tb y (by omega)).2 y2.2
      clear h1 h2 tb
      grind
  · rintro ⟨_, q⟩
    rcases h3 with ⟨q1, q2, q3⟩ | ⟨⟨x, x1, x2, x3⟩, ⟨y, y1, y2, y3⟩⟩
    · rw [q1, q2]; decide
    · rw [x3, y3]
      exact q y x y1 x1 y2 x2
theorem lp_lies {E : ME} {d : Nat} {A A0 : Nat → Nat → Int32} {B : Nat → Nat → Int64} {K : MK} {T : (Nat → Int32) × (Nat → Int32) × (Nat → Int32)} (tb : TB T) (k1 : LSt T → K (some (.int 1)) (SH, nb3 A T, B)) (k0 : ¬ LSt T → K (some (.int 0)) (SH, nb3 A T, B)) : ∀ p : Nat × Int32 × Int32, (p.1 ≤ 9 ∧ LI2 T p.1 p.2.1 p.2.2) → mSem E (d + 1) nX5_liesStraight (SH, A0, B) 0 0 K 10 [some (.ref 41), some (.int p.2.1), some (.int p.2.2), some (.int (nI p.1))] [] (SH, nb3 A T, B) := by
  obtain ⟨T1, T2, T3⟩ := T
  refine mSem_loop (σ := Nat × Int32 × Int32) (h0 := (SH, A0, B)) MX5_liesStraight rfl aX5_liesStraight 300 [10] (fun p => [some (.ref 41), some (.int p.2.1), some (.int p.2.2), some (.int (nI p.1))]) (fun p => (SH, nb3 A (T1, T2, T3), B)) (fun p => p.1 ≤ 9 ∧ LI2 (T1, T2, T3) p.1 p.2.1 p.2.2) (fun p => 9 - p.1) ?_
  rintro ⟨l, lo, hi⟩ ⟨hl, hI⟩ cl ax hcl hax hlp
  have hl : l ≤ 9 := hl
  have hI : LI2 (T1, T2, T3) l lo hi := hI
  have e8 : (nI l).toNatClampNeg = l := nI_clamp (by omega)
  refine ⟨fun (c0 : nI 9 ≤ nI l) => ?_, fun (c0 : ¬ nI 9 ≤ nI l) => ?_⟩
  · rw [nI_leI (by omega) (by omega)] at c0
    have : l = 9 := by omega
    subst this
    have e := LI2_end hI tb
    refine ⟨fun (c : 5 < hi - lo) => ⟨rfl, k0 (fun q => ?_)⟩, fun (c : ¬ 5 < hi - lo) => ⟨rfl, k1 (e.mp ?_)⟩⟩
    · have q := e.mpr q
      clear hcl hax hlp k0 k1 e hI tb
      grind
    · clear hcl hax hlp k0 k1 e hI tb
      grind
  · rw [nI_leI (by omega) (by omega)] at c0
    have hv : vp_in (nI l) 9 := vp_in_nI (by omega) (by decide)
    have nx : ∀ lo' hi', LI2 (T1, T2, T3) (l + 1) lo' hi' → ax 10 [some (.ref 41), some (.int lo'), some (.int hi'), some (.int (nI l + 1))] [] (SH, nb3 A (T1, T2, T3), B) := fun lo' hi' q => by
      rw [nI_1]
      exact hlp (l + 1, lo', hi') ⟨by show l + 1 ≤ 9; omega, q⟩ (by show 9 - (l + 1) < 9 - l; omega)
    have t01 : T3 l = 0 ∨ T3 l = 1 := (tb l (by omega)).1
    refine ⟨hv, ?_⟩
    refine ⟨fun (c : T3 (nI l).toNatClampNeg = 0) => ?_, fun (c : ¬ T3 (nI l).toNatClampNeg = 0) => ?_⟩
    · rw [e8] at c
      have n1 : ¬ T3 l = 1 := by rw [c]; decide
      have z := nx lo hi (LI2_no hI (fun q => absurd q n1) (fun m hm am => n1 (by rw [← hm]; exact am.1)))
      refine ⟨fun _ => z, fun _ => ?_⟩
      refine ⟨hv, ?_⟩
      refine ⟨fun _ => z, fun (c1 : ¬ T3 (nI l).toNatClampNeg = 0) => absurd c (by rw [e8] at c1; exact c1)⟩
    · rw [e8] at c
      have t1 := t01.resolve_left c
      refine ⟨hv, ?_⟩
      refine ⟨hv, ?_⟩
      refine ⟨fun (c1 : T2 (nI l).toNatClampNeg - T1 (nI l).toNatClampNeg ≤ 5) => ?_, fun (c1 : ¬ T2 (nI l).toNatClampNeg - T1 (nI l).toNatClampNeg ≤ 5) => ?_⟩
      · rw [e8] at c1
        cases l with
        | zero =>
          have z := nx lo hi (LI2_no hI (fun _ => c1) (fun m hm => by omega))
          exact ⟨fun _ => z, fun q => absurd (by decide) q⟩
        | succ l =>
          have np : nI (l + 1) - 1 = nI l := nI_pred l
          have ep : (nI (l + 1) - 1).toNatClampNeg = l := by rw [np]; exact nI_clamp (by omega)
          refine ⟨fun (q : nI (l + 1) ≤ 0) => absurd q (nI_nle (by omega) (by omega)), fun _ => ?_⟩
          refine ⟨hv, ?_⟩
          refine ⟨fun (q : T3 (nI (l + 1)).toNatClampNeg = 0) => absurd (by rw [e8] at q; exact q) c, fun _ => ?_⟩
          have hv2 : vp_in (nI (l + 1) - 1) 9 := by rw [np]; exact vp_in_nI (by omega) (by decide)
          refine ⟨hv2, ?_⟩
          refine ⟨fun (q : T3 (nI (l + 1) - 1).toNatClampNeg = 0) => ?_, fun (q : ¬ T3 (nI (l + 1) - 1).toNatClampNeg = 0) => ?_⟩
          · rw [ep] at q
            refine nx lo hi (LI2_no hI (fun _ => c1) (fun m hm am => ?_))
            have : m = l := by omega
            subst this
            exact absurd (q.symm.trans am.2) (by decide)
          · rw [ep] at q
            have t2 : T3 l = 1 := ((tb l (by omega)).1).resolve_left q
            refine ⟨hv, ?_⟩
            refine ⟨hv2, ?_⟩
            refine ⟨hv, ?_⟩
            refine ⟨hv2, ?_⟩
            have z := nx _ _ (LI2_adj hI tb (by omega) c1 ⟨t1, t2⟩)
            rw [← e8, ← ep] at z
            rw [e8] at z
            exact z
      · rw [e8] at c1
        exact ⟨rfl, k0 (fun q => c1 (q.1 l (by omega) t1))⟩
