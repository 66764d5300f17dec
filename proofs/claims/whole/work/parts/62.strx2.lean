/-! lies it straight: X -/
theorem mn_l (x y : Int32) : mn x y ≤ x := by
  unfold mn
  split <;> grind
theorem mn_r (x y : Int32) : mn x y ≤ y := by
  unfold mn
  split <;> grind
theorem mx_l (x y : Int32) : x ≤ mx x y := by
  unfold mx
  split <;> grind
theorem mx_r (x y : Int32) : y ≤ mx x y := by
  unfold mx
  split <;> grind
theorem db98 {x y : Int32} (a : 0 ≤ x ∧ x ≤ 9998) (b : 0 ≤ y ∧ y ≤ 9998) : x - y < 9999 ∧ -9999 < x - y := by grind
def LI2 (T : (Nat → Int32) × (Nat → Int32) × (Nat → Int32)) (l : Nat) (lo hi : Int32) : Prop := (∀ m, m < l → T.2.2 m = 1 → T.2.1 m - T.1 m ≤ 5) ∧ (∀ m, m + 1 < l → ADJ T.2.2 m → lo ≤ T.1 (m + 1) - T.2.1 m ∧ T.2.1 (m + 1) - T.1 m ≤ hi) ∧ ((lo = 9999 ∧ hi = -9999 ∧ ∀ m, m + 1 < l → ¬ ADJ T.2.2 m) ∨ ((∃ m, m + 1 < l ∧ ADJ T.2.2 m ∧ lo = T.1 (m + 1) - T.2.1 m) ∧ ∃ m, m + 1 < l ∧ ADJ T.2.2 m ∧ hi = T.2.1 (m + 1) - T.1 m))
theorem LI2_no {T : (Nat → Int32) × (Nat → Int32) × (Nat → Int32)} {l : Nat} {lo hi : Int32} (h : LI2 T l lo hi) (h5 : T.2.2 l = 1 → T.2.1 l - T.1 l ≤ 5) (ha : ∀ m, m + 1 = l → ¬ ADJ T.2.2 m) : LI2 T (l + 1) lo hi := by
  obtain ⟨h1, h2, h3⟩ := h
  have ne : ∀ m, m + 1 < l + 1 → ADJ T.2.2 m → m + 1 < l := fun m hm am => by
    rcases Nat.lt_or_ge (m + 1) l with q | q
    · exact q
    · exact absurd am (ha m (by omega))
  refine ⟨fun m hm t => ?_, fun m hm am => h2 m (ne m hm am) am, ?_⟩
  · rcases Nat.lt_or_ge m l with q | q
    · exact h1 m q t
    · rw [show m = l by omega] at t ⊢
      exact h5 t
  · rcases h3 with ⟨q1, q2, q3⟩ | ⟨⟨m, m1, m2⟩, ⟨n, n1, n2⟩⟩
    · exact Or.inl ⟨q1, q2, fun m hm am => q3 m (ne m hm am) am⟩
    · exact Or.inr ⟨⟨m, by omega, m2⟩, ⟨n, by omega, n2⟩⟩
theorem LI2_adj {T : (Nat → Int32) × (Nat → Int32) × (Nat → Int32)} {l : Nat} {lo hi : Int32} (h : LI2 T (l + 1) lo hi) (tb : TB T) (hl : l + 1 < 9) (h5 : T.2.1 (l + 1) - T.1 (l + 1) ≤ 5) (ha : ADJ T.2.2 l) : LI2 T (l + 1 + 1) (mn lo (T.1 (l + 1) - T.2.1 l)) (mx hi (T.2.1 (l + 1) - T.1 l)) := by
  obtain ⟨h1, h2, h3⟩ := h
  have u1 := (tb _ hl).2 ha.1
  have u2 := (tb l (by omega)).2 ha.2
  refine ⟨fun m hm t => ?_, fun m hm am => ?_, ?_⟩
  · rcases Nat.lt_or_ge m (l + 1) with q | q
    · exact h1 m q t
    · rw [show m = l + 1 by omega]
      exact h5
  · rcases Nat.lt_or_ge (m + 1) (l + 1) with q | q
    · have z := h2 m q am
      exact ⟨Int32.le_trans (mn_l _ _) z.1, Int32.le_trans z.2 (mx_l _ _)⟩
    · rw [show m = l by omega]
      exact ⟨mn_r _ _, mx_r _ _⟩
  · refine Or.inr ⟨?_, ?_⟩
    · unfold mn
      split
      · exact ⟨l, by omega, ha, rfl⟩
      · rename_i c
        rcases h3 with ⟨q1, q2, q3⟩ | ⟨⟨m, m1, m2⟩, _⟩
        · exact absurd (by rw [q1]; exact (db98 u1.1 u2.2).1) c
        · exact ⟨m, by omega, m2⟩
    · unfold mx
      split
      · exact ⟨l, by omega, ha, rfl⟩
      · rename_i c
        rcases h3 with ⟨q1, q2, q3⟩ | ⟨_, ⟨m, m1, m2⟩⟩
        · exact absurd (by rw [q2]; exact (db98 u1.2 u2.1).2) c
        · exact ⟨m, by omega, m2⟩
theorem LI2_end {T : (Nat → Int32) × (Nat → Int32) × (Nat → Int32)} {lo hi : Int32} (h : LI2 T 9 lo hi) (tb : TB T) : hi - lo ≤ 5 ↔ LSt T := by
  obtain ⟨h1, h2, h3⟩ := h
  constructor
  · intro q
    refine ⟨h1, fun m n hm hn am an => ?_⟩
    have z1 := h2 m hm am
    have z2 := h2 n hn an
    have u1 := (tb _ hm).2 am.1
    have u2 := (tb m (by omega)).2 am.2
    have u3 := (tb _ hn).2 an.1
    have u4 := (tb n (by omega)).2 an.2
    rcases h3 with ⟨_, _, q3⟩ | ⟨⟨x, x1, x2, x3⟩, ⟨y, y1, y2, y3⟩⟩
    · exact absurd am (q3 m hm)
    · have v1 := (tb _ x1).2 x2.1
      have v2 := (tb x (by omega)).2 x2.2
      have v3 := (tb _ y1).2 y2.1
      have v4 := (tb y (by omega)).2 y2.2
      clear h1 h2 tb
      grind
  · rintro ⟨_, q⟩
    rcases h3 with ⟨q1, q2, q3⟩ | ⟨⟨x, x1, x2, x3⟩, ⟨y, y1, y2, y3⟩⟩
    · rw [q1, q2]; decide
    · rw [x3, y3]
      exact q y x y1 x1 y2 x2
theorem lp_lies {E : ME} {d : Nat} {A A0 : Nat → Nat → Int32} {B : Nat → Nat → Int64} {K : MK} {T : (Nat → Int32) × (Nat → Int32) × (Nat → Int32)} (tb : TB T) (k1 : LSt T → K (some (.int 1)) (SH, nb3 A T, B)) (k0 : ¬ LSt T → K (some (.int 0)) (SH, nb3 A T, B)) : ∀ p : Nat × Int32 × Int32, (p.1 ≤ 9 ∧ LI2 T p.1 p.2.1 p.2.2) → mSem E (d + 1) nX5_liesStraight (SH, A0, B) 0 0 K 10 [some (.ref 41), some (.int p.2.1), some (.int p.2.2), some (.int (nI p.1))] [] (SH, nb3 A T, B) := by
  obtain ⟨T1, T2, T3⟩ := T
  refine mSem_loop (σ := Nat × Int32 × Int32) (h0 := (SH, A0, B)) MX5_liesStraight rfl aX5_liesStraight 300 [10] (fun p => [some (.ref 41), some (.int p.2.1), some (.int p.2.2), some (.int (nI p.1))]) (fun p => (SH, nb3 A (T1, T2, T3), B)) (fun p => p.1 ≤ 9 ∧ LI2 (T1, T2, T3) p.1 p.2.1 p.2.2) (fun p => 9 - p.1) ?_
  rintro ⟨l, lo, hi⟩ ⟨hl, hI⟩ cl ax hcl hax hlp
  have hl : l ≤ 9 := hl
  have hI : LI2 (T1, T2, T3) l lo hi := hI
  have e8 : (nI l).toNatClampNeg = l := nI_clamp (by omega)
  refine ⟨fun (c0 : nI 9 ≤ nI l) => ?_, fun (c0 : ¬ nI 9 ≤ nI l) => ?_⟩
  · rw [nI_leI (by omega) (by omega)] at c0
    have : l = 9 := by omega
    subst this
    have e := LI2_end hI tb
    refine ⟨fun (c : 5 < hi - lo) => ⟨rfl, k0 (fun q => ?_)⟩, fun (c : ¬ 5 < hi - lo) => ⟨rfl, k1 (e.mp ?_)⟩⟩
    · have q := e.mpr q
      clear hcl hax hlp k0 k1 e hI tb
      grind
    · clear hcl hax hlp k0 k1 e hI tb
      grind
  · rw [nI_leI (by omega) (by omega)] at c0
    have hv : vp_in (nI l) 9 := vp_in_nI (by omega) (by decide)
    have nx : ∀ lo' hi', LI2 (T1, T2, T3) (l + 1) lo' hi' → ax 10 [some (.ref 41), some (.int lo'), some (.int hi'), some (.int (nI l + 1))] [] (SH, nb3 A (T1, T2, T3), B) := fun lo' hi' q => by
      rw [nI_1]
      exact hlp (l + 1, lo', hi') ⟨by show l + 1 ≤ 9; omega, q⟩ (by show 9 - (l + 1) < 9 - l; omega)
    have t01 : T3 l = 0 ∨ T3 l = 1 := (tb l (by omega)).1
    refine ⟨hv, ?_⟩
    refine ⟨fun (c : T3 (nI l).toNatClampNeg = 0) => ?_, fun (c : ¬ T3 (nI l).toNatClampNeg = 0) => ?_⟩
    · rw [e8] at c
      have n1 : ¬ T3 l = 1 := by rw [c]; decide
      have z := nx lo hi (LI2_no hI (fun q => absurd q n1) (fun m hm am => n1 (by rw [← hm]; exact am.1)))
      refine ⟨fun _ => z, fun _ => ?_⟩
      refine ⟨hv, ?_⟩
      refine ⟨fun _ => z, fun (c1 : ¬ T3 (nI l).toNatClampNeg = 0) => absurd c (by rw [e8] at c1; exact c1)⟩
    · rw [e8] at c
      have t1 := t01.resolve_left c
      refine ⟨hv, ?_⟩
      refine ⟨hv, ?_⟩
      refine ⟨fun (c1 : T2 (nI l).toNatClampNeg - T1 (nI l).toNatClampNeg ≤ 5) => ?_, fun (c1 : ¬ T2 (nI l).toNatClampNeg - T1 (nI l).toNatClampNeg ≤ 5) => ?_⟩
      · rw [e8] at c1
        cases l with
        | zero =>
          have z := nx lo hi (LI2_no hI (fun _ => c1) (fun m hm => by omega))
          exact ⟨fun _ => z, fun q => absurd (show (0 : Int32) ≤ 0 by decide) q⟩
        | succ l =>
          have np : nI (l + 1) - 1 = nI l := nI_pred l
          have ep : (nI (l + 1) - 1).toNatClampNeg = l := by rw [np]; exact nI_clamp (by omega)
          refine ⟨fun (q : nI (l + 1) ≤ 0) => absurd q (nI_nle (by omega) (by omega)), fun _ => ?_⟩
          refine ⟨hv, ?_⟩
          refine ⟨fun (q : T3 (nI (l + 1)).toNatClampNeg = 0) => absurd (by rw [e8] at q; exact q) c, fun _ => ?_⟩
          have hv2 : vp_in (nI (l + 1) - 1) 9 := by rw [np]; exact vp_in_nI (by omega) (by decide)
          refine ⟨hv2, ?_⟩
          refine ⟨fun (q : T3 (nI (l + 1) - 1).toNatClampNeg = 0) => ?_, fun (q : ¬ T3 (nI (l + 1) - 1).toNatClampNeg = 0) => ?_⟩
          · rw [ep] at q
            refine nx lo hi (LI2_no hI (fun _ => c1) (fun m hm am => ?_))
            have : m = l := by omega
            subst this
            exact absurd (q.symm.trans am.2) (by decide)
          · rw [ep] at q
            have t2 : T3 l = 1 := ((tb l (by omega)).1).resolve_left q
            refine ⟨hv, ?_⟩
            refine ⟨hv2, ?_⟩
            refine ⟨hv, ?_⟩
            refine ⟨hv2, ?_⟩
            have z := nx _ _ (LI2_adj hI tb (by omega) c1 ⟨t1, t2⟩)
            have z2 : ax 10 [some (.ref 41), some (.int (mn lo (T1 (nI (l + 1)).toNatClampNeg - T2 (nI (l + 1) - 1).toNatClampNeg))), some (.int (mx hi (T2 (nI (l + 1)).toNatClampNeg - T1 (nI (l + 1) - 1).toNatClampNeg))), some (.int (nI (l + 1) + 1))] [] (SH, nb3 A (T1, T2, T3), B) := by
              rw [e8, ep]
              exact z
            exact z2
      · rw [e8] at c1
        exact ⟨rfl, k0 (fun q => c1 (q.1 l (by omega) t1))⟩
theorem w_lies {E : ME} {d : Nat} {A : Nat → Nat → Int32} {B : Nat → Nat → Int64} {K : MK} {T : (Nat → Int32) × (Nat → Int32) × (Nat → Int32)} (tb : TB T) (k1 : LSt T → K (some (.int 1)) (SH, nb3 A T, B)) (k0 : ¬ LSt T → K (some (.int 0)) (SH, nb3 A T, B)) : mCall E (d + 1) nX5_liesStraight [.ref 41] (SH, nb3 A T, B) K := by
  refine mCall_sem MX5_liesStraight rfl rfl (Or.inl ⟨rfl, rfl, rfl⟩) rfl (mSem_wp MX5_liesStraight rfl aX5_liesStraight 300 [10] (fun cl ax hcl hax => ?_))
  exact hax _ _ _ _ (lp_lies (d := d) tb k1 k0 (0, 9999, -9999) ⟨by omega, fun m hm => absurd hm (by omega), fun m hm => absurd hm (by omega), Or.inl ⟨rfl, rfl, fun m hm => absurd hm (by omega)⟩⟩)
theorem SB_n {s : Int32} {a : Nat} (h : ¬ (s >>> (nI a &&& 31)) &&& 1 = 0) : SB s a := (and1 _).resolve_left h
theorem SB_0 {s : Int32} {a : Nat} (h : SB s a) : ¬ (s >>> (nI a &&& 31)) &&& 1 = 0 := fun q => absurd (q.symm.trans h) (by decide)
theorem lp_lsl {E : ME} {d : Nat} {A A0 : Nat → Nat → Int32} {B : Nat → Nat → Int64} {K : MK} {k : Nat} {s : Int32} (hk : k ≤ 12) (hx : A 35 0 = nI k) (hl : ∀ a, a < k → SB s a → 0 ≤ A 37 a ∧ A 37 a ≤ 8) (hf : ∀ a, a < k → SB s a → A 40 a = 0 → 0 ≤ A 38 a ∧ A 38 a ≤ 9998) (k1 : SPa (SB s) (A 37) (A 38) (A 40) k → ∀ T, K (some (.int 1)) (SH, nb3 A T, B)) (k0 : ¬ SPa (SB s) (A 37) (A 38) (A 40) k → ∀ T, K (some (.int 0)) (SH, nb3 A T, B)) : ∀ p : Nat × (Nat → Int32) × (Nat → Int32) × (Nat → Int32), (p.1 ≤ k ∧ (∀ a, a < p.1 → SB s a → A 40 a = 0) ∧ IS (SB s) (A 37) (A 38) p.1 p.2) → mSem E (d + 2) nX8_liesStraightLater (SH, A0, B) 0 0 K 9 [some (.ref 0), some (.int s), some (.int (nI p.1))] [] (SH, nb3 A p.2, B) := by
  refine mSem_loop (σ := Nat × (Nat → Int32) × (Nat → Int32) × (Nat → Int32)) (h0 := (SH, A0, B)) MX8_liesStraightLater rfl aX8_liesStraightLater 300 [9] (fun p => [some (.ref 0), some (.int s), some (.int (nI p.1))]) (fun p => (SH, nb3 A p.2, B)) (fun p => p.1 ≤ k ∧ (∀ a, a < p.1 → SB s a → A 40 a = 0) ∧ IS (SB s) (A 37) (A 38) p.1 p.2) (fun p => k - p.1) ?_
  rintro ⟨j, T⟩ ⟨hj, hg, hI⟩ cl ax hcl hax hlp
  have hj : j ≤ k := hj
  have hg : ∀ a, a < j → SB s a → A 40 a = 0 := hg
  have hI : IS (SB s) (A 37) (A 38) j T := hI
  have e8 : (nI j).toNatClampNeg = j := nI_clamp (by omega)
  refine ⟨fun (c : A 35 0 ≤ nI j) => ?_, fun (c : ¬ A 35 0 ≤ nI j) => ?_⟩
  · rw [hx, nI_leI (by omega) (by omega)] at c
    have : j = k := by omega
    subst this
    have hf2 := fun a ha sa => hf a ha sa (hg a ha sa)
    have e := LS_SP hI hg hl hf2
    exact hcl _ _ _ _ (w_lies (IS_TB hI hf2) (fun q => ⟨rfl, k1 (e.mp q) T⟩) (fun q => ⟨rfl, k0 (fun z => q (e.mpr z)) T⟩))
  · rw [hx, nI_leI (by omega) (by omega)] at c
    have hv : vp_in (nI j) 12 := vp_in_nI (by omega) (by decide)
    have nx : ∀ T', (∀ a, a < j + 1 → SB s a → A 40 a = 0) → IS (SB s) (A 37) (A 38) (j + 1) T' → ax 9 [some (.ref 0), some (.int s), some (.int (nI j + 1))] [] (SH, nb3 A T', B) := fun T' q1 q2 => by
      rw [nI_1]
      exact hlp (j + 1, T') ⟨by show j + 1 ≤ k; omega, q1, q2⟩ (by show k - (j + 1) < k - j; omega)
    refine ⟨fun (c1 : (s >>> (nI j &&& 31)) &&& 1 = 0) => ?_, fun (c1 : ¬ (s >>> (nI j &&& 31)) &&& 1 = 0) => ?_⟩
    · have ns : ¬ SB s j := fun q => SB_0 q c1
      refine nx T (fun a ha sa => ?_) (IS_skip hI ns)
      by_cases e : a = j
      · rw [e] at sa; exact absurd sa ns
      · exact hg a (by omega) sa
    · have ss := SB_n c1
      refine ⟨hv, ?_⟩
      refine ⟨fun (c2 : A 40 (nI j).toNatClampNeg = 0) => ?_, fun (c2 : ¬ A 40 (nI j).toNatClampNeg = 0) => ?_⟩
      · rw [e8] at c2
        obtain ⟨l, l8, el⟩ := ix_le 8 (hl j (by omega) ss).1 (hl j (by omega) ss).2 rfl
        refine ⟨hv, ?_⟩
        refine ⟨hv, ?_⟩
        refine hcl _ _ _ _ (w_add l (by omega) (show A 37 (nI j).toNatClampNeg = nI l by rw [e8]; exact el) ?_)
        have z := nx (ad1 T l (A 38 j)) (fun a ha sa => by
          by_cases e : a = j
          · rw [e]; exact c2
          · exact hg a (by omega) sa) (IS_add hI ss (by omega) el)
        rw [show A 38 j = A 38 (nI j).toNatClampNeg by rw [e8]] at z
        exact z
      · rw [e8] at c2
        exact ⟨rfl, k0 (fun q => c2 (q.1 j (by omega) ss)) T⟩
theorem w_lsl {E : ME} {d : Nat} {A : Nat → Nat → Int32} {B : Nat → Nat → Int64} {K : MK} {k : Nat} {s : Int32} (hk : k ≤ 12) (hx : A 35 0 = nI k) (hl : ∀ a, a < k → SB s a → 0 ≤ A 37 a ∧ A 37 a ≤ 8) (hf : ∀ a, a < k → SB s a → A 40 a = 0 → 0 ≤ A 38 a ∧ A 38 a ≤ 9998) (k1 : SPa (SB s) (A 37) (A 38) (A 40) k → ∀ T, K (some (.int 1)) (SH, nb3 A T, B)) (k0 : ¬ SPa (SB s) (A 37) (A 38) (A 40) k → ∀ T, K (some (.int 0)) (SH, nb3 A T, B)) : mCall E (d + 2) nX8_liesStraightLater [.ref 0, .int s] (SH, A, B) K := by
  refine mCall_sem MX8_liesStraightLater rfl rfl (Or.inl ⟨rfl, rfl, rfl⟩) rfl (mSem_wp MX8_liesStraightLater rfl aX8_liesStraightLater 300 [9] (fun cl ax hcl hax => ?_))
  refine hcl _ _ _ _ (w_clear (fun T hT => ?_))
  have this := lp_lsl (E := E) (d := d) (A := A) (A0 := A) (B := B) (K := K) hk hx hl hf k1 k0 (0, A 42, A 43, T) ⟨by omega, fun a ha => absurd ha (by simp), IS_0 hT⟩
  rw [show (0, A 42, A 43, T).2 = (A 42, A 43, T) from rfl, nb3_self] at this
  exact hax _ _ _ _ this
