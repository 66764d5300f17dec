/-! whose -/
def nw (G L F : Nat → Int32) (l p : Int32) : Nat → Int32
  | 0 => -1
  | j + 1 => if (G j = 0 ∧ L j = l) ∧ (nw G L F l p j < 0 ∨ ab (F j - p) < ab (F (nw G L F l p j).toNatClampNeg - p)) then nI j else nw G L F l p j
theorem nw_c {G L F G' L' F' : Nat → Int32} {l p : Int32} : ∀ k, k ≤ 12 → (∀ j, j < k → (G j = 0 ↔ G' j = 0) ∧ L j = L' j ∧ F j = F' j) → nw G L F l p k = nw G' L' F' l p k ∧ (nw G L F l p k < 0 ∨ ∃ b, b < k ∧ nw G L F l p k = nI b)
  | 0, _, _ => ⟨rfl, Or.inl (by show (-1 : Int32) < 0; decide)⟩
  | k + 1, hk, h => by
    obtain ⟨e, hb⟩ := nw_c (l := l) (p := p) k (by omega) (fun j hj => h j (by omega))
    have hj := h k (by omega)
    have e2 : nw G L F l p k < 0 ∨ F (nw G L F l p k).toNatClampNeg = F' (nw G L F l p k).toNatClampNeg := by
      rcases hb with q | ⟨b, b1, b2⟩
      · exact Or.inl q
      · right
        rw [b2, nI_clamp (by omega)]
        exact (h b (by omega)).2.2
    constructor
    · unfold nw
      rw [← e, hj.2.1, hj.2.2]
      rcases e2 with q | q
      · by_cases c : G k = 0 ∧ L' k = l
        · rw [if_pos ⟨c, Or.inl q⟩, if_pos ⟨⟨hj.1.mp c.1, c.2⟩, Or.inl q⟩]
        · rw [if_neg (fun r => c r.1), if_neg (fun r => c ⟨hj.1.mpr r.1.1, r.1.2⟩)]
      · rw [q]
        by_cases c : (G k = 0 ∧ L' k = l) ∧ (nw G L F l p k < 0 ∨ ab (F' k - p) < ab (F' (nw G L F l p k).toNatClampNeg - p))
        · rw [if_pos c, if_pos ⟨⟨hj.1.mp c.1.1, c.1.2⟩, c.2⟩]
        · rw [if_neg c, if_neg (fun r => c ⟨⟨hj.1.mpr r.1.1, r.1.2⟩, r.2⟩)]
    · unfold nw
      split
      · exact Or.inr ⟨k, by omega, rfl⟩
      · rcases hb with q | ⟨b, b1, b2⟩
        · exact Or.inl q
        · exact Or.inr ⟨b, by omega, b2⟩
theorem lp_near {E : ME} {d : Nat} {A A0 : Nat → Nat → Int32} {B : Nat → Nat → Int64} {K : MK} {k : Nat} {l p : Int32} (hk : k ≤ 12) (hx : A 4 0 = nI k) (hK : K (some (.int (nw (A 9) (A 6) (A 7) l p k))) (SH, A, B)) : ∀ v : Nat × Int32 × Option Value, (v.1 ≤ k ∧ (¬ nw (A 9) (A 6) (A 7) l p v.1 < 0 → v.2.1 = ab (A 7 (nw (A 9) (A 6) (A 7) l p v.1).toNatClampNeg - p))) → mSem E (d + 1) nX1_nearest (SH, A0, B) 0 0 K 8 [some (.ref 4), some (.int l), some (.int p), some (.int (nw (A 9) (A 6) (A 7) l p v.1)), some (.int v.2.1), some (.int (nI v.1)), v.2.2] [] (SH, A, B) := by
  refine mSem_loop (σ := Nat × Int32 × Option Value) (h0 := (SH, A0, B)) MX1_nearest rfl aX1_nearest 300 [8] (fun v => [some (.ref 4), some (.int l), some (.int p), some (.int (nw (A 9) (A 6) (A 7) l p v.1)), some (.int v.2.1), some (.int (nI v.1)), v.2.2]) (fun v => (SH, A, B)) (fun v => v.1 ≤ k ∧ (¬ nw (A 9) (A 6) (A 7) l p v.1 < 0 → v.2.1 = ab (A 7 (nw (A 9) (A 6) (A 7) l p v.1).toNatClampNeg - p))) (fun v => k - v.1) ?_
  rintro ⟨j, o, x⟩ ⟨hj, ho⟩ cl ax hcl hax hlp
  have hj : j ≤ k := hj
  have ho : ¬ nw (A 9) (A 6) (A 7) l p j < 0 → o = ab (A 7 (nw (A 9) (A 6) (A 7) l p j).toNatClampNeg - p) := ho
  have e8 : (nI j).toNatClampNeg = j := nI_clamp (by omega)
  have hv : j < k → vp_in (nI j) 12 := fun q => vp_in_nI (by omega) (by decide)
  refine ⟨fun (c0 : A 4 0 ≤ nI j) => ?_, fun (c0 : ¬ A 4 0 ≤ nI j) => ?_⟩
  · rw [hx, nI_leI (by omega) (by omega)] at c0
    have : j = k := by omega
    subst this
    exact hK
  · rw [hx, nI_leI (by omega) (by omega)] at c0
    have hv := hv (by omega)
    have no : ¬ ((A 9 j = 0 ∧ A 6 j = l) ∧ (nw (A 9) (A 6) (A 7) l p j < 0 ∨ ab (A 7 j - p) < ab (A 7 (nw (A 9) (A 6) (A 7) l p j).toNatClampNeg - p))) → ∀ x, ax 8 [some (.ref 4), some (.int l), some (.int p), some (.int (nw (A 9) (A 6) (A 7) l p j)), some (.int o), some (.int (nI j + 1)), x] [] (SH, A, B) := fun q x => by
      have e : nw (A 9) (A 6) (A 7) l p (j + 1) = nw (A 9) (A 6) (A 7) l p j := by
        rw [nw, if_neg q]
      have this := hlp (j + 1, o, x) ⟨by show j + 1 ≤ k; omega, by
        show ¬ nw (A 9) (A 6) (A 7) l p (j + 1) < 0 → o = ab (A 7 (nw (A 9) (A 6) (A 7) l p (j + 1)).toNatClampNeg - p)
        rw [e]; exact ho⟩ (by show k - (j + 1) < k - j; omega)
      have this : ax 8 [some (.ref 4), some (.int l), some (.int p), some (.int (nw (A 9) (A 6) (A 7) l p (j + 1))), some (.int o), some (.int (nI (j + 1))), x] [] (SH, A, B) := this
      rw [e, ← nI_1] at this
      exact this
    have yes : ((A 9 j = 0 ∧ A 6 j = l) ∧ (nw (A 9) (A 6) (A 7) l p j < 0 ∨ ab (A 7 j - p) < ab (A 7 (nw (A 9) (A 6) (A 7) l p j).toNatClampNeg - p))) → ∀ x, ax 8 [some (.ref 4), some (.int l), some (.int p), some (.int (nI j)), some (.int (ab (A 7 j - p))), some (.int (nI j + 1)), x] [] (SH, A, B) := fun q x => by
      have e : nw (A 9) (A 6) (A 7) l p (j + 1) = nI j := by
        rw [nw, if_pos q]
      have this := hlp (j + 1, ab (A 7 j - p), x) ⟨by show j + 1 ≤ k; omega, by
        show ¬ nw (A 9) (A 6) (A 7) l p (j + 1) < 0 → ab (A 7 j - p) = ab (A 7 (nw (A 9) (A 6) (A 7) l p (j + 1)).toNatClampNeg - p)
        rw [e, e8]; exact fun _ => rfl⟩ (by show k - (j + 1) < k - j; omega)
      have this : ax 8 [some (.ref 4), some (.int l), some (.int p), some (.int (nw (A 9) (A 6) (A 7) l p (j + 1))), some (.int (ab (A 7 j - p))), some (.int (nI (j + 1))), x] [] (SH, A, B) := this
      rw [e, ← nI_1] at this
      exact this
    have ea : A 7 j = A 7 (nI j).toNatClampNeg := by rw [e8]
    refine ⟨hv, ?_⟩
    refine ⟨fun (c1 : ¬ A 9 (nI j).toNatClampNeg = 0) => no (fun q => c1 (by rw [e8]; exact q.1.1)) x, fun (c1 : A 9 (nI j).toNatClampNeg = 0) => ?_⟩
    rw [e8] at c1
    refine ⟨hv, ?_⟩
    refine ⟨fun (c2 : A 6 (nI j).toNatClampNeg = l) => ?_, fun (c2 : ¬ A 6 (nI j).toNatClampNeg = l) => no (fun q => c2 (by rw [e8]; exact q.1.2)) x⟩
    rw [e8] at c2
    refine ⟨hv, ?_⟩
    refine ⟨fun (c3 : nw (A 9) (A 6) (A 7) l p j < 0) => ?_, fun (c3 : ¬ nw (A 9) (A 6) (A 7) l p j < 0) => ?_⟩
    · have this := yes ⟨⟨c1, c2⟩, Or.inl c3⟩ (some (.int (ab (A 7 j - p))))
      rw [ea] at this
      exact this
    · refine ⟨fun (c4 : o ≤ ab (A 7 (nI j).toNatClampNeg - p)) => ?_, fun (c4 : ¬ o ≤ ab (A 7 (nI j).toNatClampNeg - p)) => ?_⟩
      · rw [e8, ho c3] at c4
        refine no (fun q => ?_) _
        rcases q.2 with r | r
        · exact c3 r
        · clear hcl hax hlp no yes hK
          grind
      · have c5 := c4
        rw [e8, ho c3] at c5
        have this := yes ⟨⟨c1, c2⟩, Or.inr (by clear hcl hax hlp no yes hK; grind)⟩ (some (.int (ab (A 7 j - p))))
        rw [ea] at this
        exact this
theorem w_near {E : ME} {d : Nat} {A : Nat → Nat → Int32} {B : Nat → Nat → Int64} {K : MK} {k : Nat} {l p : Int32} (hk : k ≤ 12) (hx : A 4 0 = nI k) (hK : K (some (.int (nw (A 9) (A 6) (A 7) l p k))) (SH, A, B)) : mCall E (d + 1) nX1_nearest [.ref 4, .int l, .int p] (SH, A, B) K := by
  refine mCall_sem MX1_nearest rfl rfl (Or.inl ⟨rfl, rfl, rfl⟩) rfl (mSem_wp MX1_nearest rfl aX1_nearest 300 [8] (fun cl ax hcl hax => ?_))
  exact hax _ _ _ _ (lp_near hk hx hK (0, 0, none) ⟨by omega, fun q => absurd (show (-1 : Int32) < 0 by decide) q⟩)
theorem w_offFrom {E : ME} {d : Nat} {A : Nat → Nat → Int32} {B : Nat → Nat → Int64} {K : MK} {i t : Nat} {z : Int32} (ez : z = nI i) (hi : i < 12) (ht : t < 10) (hK : K (some (.int (ab (A 75 (17 + 5 * i) - mn (A 75 0) (A 75 (76 + 2 * t)))))) (SH, A, B)) : mCall E (d + 2) nX9_offFrom [.ref 74, .int z, .int (nI t)] (SH, A, B) K := by
  subst ez
  refine mCall_sem MX9_offFrom rfl rfl (Or.inl ⟨rfl, rfl, rfl⟩) rfl (mSem_wp MX9_offFrom rfl aX9_offFrom 300 [] (fun cl ax hcl hax => ?_))
  refine hcl _ _ _ _ (w_houseIs (17 + 5 * i) (by omega) (hIx i 2 _ (by omega)) ?_)
  refine hcl _ _ _ _ (w_X9_placeOf ht ?_)
  exact hK
def G1 (N : Nat → Int32) (j : Nat) : Int32 := if N (19 + 5 * j) = 1 then 1 else 0
theorem lp_X9_whose {E : ME} {d : Nat} {A A0 : Nat → Nat → Int32} {B : Nat → Nat → Int64} {K : MK} {k t : Nat} (hk : k ≤ 12) (ht : t < 10) (hx : A 75 3 = nI k) (W : Nat → Int32) (hW : W = nw (G1 (A 75)) (fun j => A 75 (16 + 5 * j)) (fun j => A 75 (17 + 5 * j)) (A 75 (75 + 2 * t)) (mn (A 75 0) (A 75 (76 + 2 * t)))) (hb : ∀ j, j ≤ k → W j < 0 ∨ ∃ b, b < j ∧ W j = nI b) (k1 : ¬ W k < 0 → K (some (.int (W k))) (SH, A, B)) (k0 : W k < 0 → K (some (.int (-1000000004))) (SH, cnt2 A 3, B)) : ∀ v : Nat × Option Value, v.1 ≤ k → mSem E (d + 3) nX9_whose (SH, A0, B) 0 0 K 19 [some (.ref 74), some (.int (nI t)), some (.int (W v.1)), some (.int (nI v.1)), v.2] [] (SH, A, B) := by
  refine mSem_loop (σ := Nat × Option Value) (h0 := (SH, A0, B)) MX9_whose rfl aX9_whose 300 [19] (fun v => [some (.ref 74), some (.int (nI t)), some (.int (W v.1)), some (.int (nI v.1)), v.2]) (fun v => (SH, A, B)) (fun v => v.1 ≤ k) (fun v => k - v.1) ?_
  rintro ⟨j, x⟩ hj cl ax hcl hax hlp
  have hj : j ≤ k := hj
  have e8 : (75 + 2 * nI t).toNatClampNeg = 75 + 2 * t := by rw [dIx t _ rfl, nI_clamp (by omega)]
  have v8 : vp_in (75 + 2 * nI t) 135 := by rw [dIx t _ rfl]; exact vp_in_nI (N := 135) (by omega) (by decide)
  refine ⟨vl 3 rfl rfl, ?_⟩
  refine ⟨fun (c0 : A 75 3 ≤ nI j) => ?_, fun (c0 : ¬ A 75 3 ≤ nI j) => ?_⟩
  · rw [hx, nI_leI (by omega) (by omega)] at c0
    have : j = k := by omega
    subst this
    refine ⟨fun (c1 : 0 ≤ W j) => ?_, fun (c1 : ¬ 0 ≤ W j) => ?_⟩
    · exact k1 (by clear hcl hax hlp; grind)
    · refine hcl _ _ _ _ (w_X9_finding 3 (by decide) (by decide) ?_)
      exact k0 (by clear hcl hax hlp; grind)
  · rw [hx, nI_leI (by omega) (by omega)] at c0
    have eW : W (j + 1) = if (G1 (A 75) j = 0 ∧ A 75 (16 + 5 * j) = A 75 (75 + 2 * t)) ∧ (W j < 0 ∨ ab (A 75 (17 + 5 * j) - mn (A 75 0) (A 75 (76 + 2 * t))) < ab (A 75 (17 + 5 * (W j).toNatClampNeg) - mn (A 75 0) (A 75 (76 + 2 * t)))) then nI j else W j := by
      rw [hW]; rfl
    have this : ∀ x, ax 19 [some (.ref 74), some (.int (nI t)), some (.int (W (j + 1))), some (.int (nI (j + 1))), x] [] (SH, A, B) := fun x => hlp (j + 1, x) (by show j + 1 ≤ k; omega) (by show k - (j + 1) < k - j; omega)
    rw [← nI_1] at this
    refine hcl _ _ _ _ (w_isGone j (by omega) (fun c1 => ?_) (fun c1 => ?_))
    · refine ⟨fun _ => ?_, fun h9 => absurd h9 (by decide)⟩
      refine ⟨fun _ => ?_, fun h9 => absurd h9 (by decide)⟩
      rw [eW, if_neg (fun q => by have := q.1.1; unfold G1 at this; rw [if_pos c1] at this; exact absurd this (by decide))] at this
      exact this _
    · refine ⟨fun h9 => absurd h9 (by decide), fun _ => ?_⟩
      have g0 : G1 (A 75) j = 0 := by unfold G1; rw [if_neg c1]
      refine hcl _ _ _ _ (w_houseIs (16 + 5 * j) (by omega) (hIx j 1 _ (by omega)) ?_)
      refine ⟨v8, ?_⟩
      refine ⟨fun (c2 : ¬ A 75 (16 + 5 * j) = A 75 (75 + 2 * nI t).toNatClampNeg) => ?_, fun (c2 : A 75 (16 + 5 * j) = A 75 (75 + 2 * nI t).toNatClampNeg) => ?_⟩
      · refine ⟨fun _ => ?_, fun h9 => absurd h9 (by decide)⟩
        rw [e8] at c2
        rw [eW, if_neg (fun q => c2 q.1.2)] at this
        exact this _
      · refine ⟨fun h9 => absurd h9 (by decide), fun _ => ?_⟩
        rw [e8] at c2
        refine ⟨fun (c3 : W j < 0) => ?_, fun (c3 : ¬ W j < 0) => ?_⟩
        · rw [eW, if_pos ⟨⟨g0, c2⟩, Or.inl c3⟩] at this
          exact this _
        · obtain ⟨b, b1, b2⟩ := (hb j hj).resolve_left c3
          have e9 : (W j).toNatClampNeg = b := by rw [b2, nI_clamp (by omega)]
          rw [e9] at eW
          refine hcl _ _ _ _ (w_offFrom (i := j) rfl (by omega) ht ?_)
          refine hcl _ _ _ _ (w_offFrom (i := b) b2 (by omega) ht ?_)
          refine ⟨fun c4 => ?_, fun c4 => ?_⟩
          · have c4 : ab (A 75 (17 + 5 * b) - mn (A 75 0) (A 75 (76 + 2 * t))) ≤ ab (A 75 (17 + 5 * j) - mn (A 75 0) (A 75 (76 + 2 * t))) := c4
            rw [eW, if_neg (fun q => by
              rcases q.2 with r | r
              · exact c3 r
              · clear hcl hax hlp this
                grind)] at this
            exact this _
          · have c4 : ¬ ab (A 75 (17 + 5 * b) - mn (A 75 0) (A 75 (76 + 2 * t))) ≤ ab (A 75 (17 + 5 * j) - mn (A 75 0) (A 75 (76 + 2 * t))) := c4
            rw [eW, if_pos ⟨⟨g0, c2⟩, Or.inr (by clear hcl hax hlp this; grind)⟩] at this
            exact this _
theorem op_whose {E : ME} {v : Int32} {A : Nat → Nat → Int32} {B : Nat → Nat → Int64} (h : rAll A B) : rOp E nX8_whose nX9_whose [.int v] A B := by
  obtain ⟨k, s, hm, hx, hx2⟩ := hM_of h.1
  have hh := rH h.1 hm.2.2.1 hm.1
  have hd := rD h.1 hm.2.2.2.1 hm.2.1
  have k12 := hm.1
  have s10 := hm.2.1
  refine rOp_of (fun K hK => ?_)
  refine mCall_sem MX8_whose rfl rfl (Or.inl ⟨rfl, rfl, rfl⟩) rfl (mSem_wp MX8_whose rfl aX8_whose 300 [] (fun cl ax hcl hax => ?_))
  refine hcl _ _ _ _ (w_X8_isDeed hx2 (fun a1 a2 => ?_) (fun a0 => ?_))
  · refine ⟨fun _ => ?_, fun h9 => absurd h9 (by decide)⟩
    obtain ⟨t, ht, rfl⟩ := do_ix s10 a1 a2
    have e8 : (nI t).toNatClampNeg = t := nI_clamp (by omega)
    have td := hd t ht
    refine ⟨vp_in_nI (N := 10) (by omega) (by decide), ?_⟩
    refine hcl _ _ _ _ (w_X0_placeOf (by omega) ?_)
    have el : (SH, A, B).2.1 11 (nI t).toNatClampNeg = A 75 (75 + 2 * t) := by rw [e8]; exact td.1.1
    have ep : mn (A 12 t) (A 2 0) = mn (A 75 0) (A 75 (76 + 2 * t)) := by rw [mn_c, td.1.2, h.1.1.1.1]
    rw [el, ep]
    have ec := fun j (hj : j ≤ k) => nw_c (G := G1 (A 75)) (L := fun j => A 75 (16 + 5 * j)) (F := fun j => A 75 (17 + 5 * j)) (G' := A 9) (L' := A 6) (F' := A 7) (l := A 75 (75 + 2 * t)) (p := mn (A 75 0) (A 75 (76 + 2 * t))) j (by omega) (fun i hi => by
      have q := hh i (by omega)
      refine ⟨?_, q.1.2.1.symm, q.1.2.2.1.symm⟩
      rw [q.1.2.2.2.2]
      unfold G1
      rcases (hm.2.2.2.2.1 i (by omega)).2 with r | r
      · rw [r]; decide
      · rw [r]; decide)
    refine hcl _ _ _ _ (w_near k12 hx ?_)
    rw [← (ec k (Nat.le_refl _)).1]
    refine ⟨fun (c : 0 ≤ nw _ _ _ _ _ k) => ?_, fun (c : ¬ 0 ≤ nw _ _ _ _ _ k) => ?_⟩
    · refine hK _ _ ?_
      clear hcl hax
      clear cl ax
      refine mCall_k (fun K hK => ?_)
      refine mCall_sem MX9_whose rfl rfl (Or.inl ⟨rfl, rfl, rfl⟩) rfl (mSem_wp MX9_whose rfl aX9_whose 300 [19] (fun cl ax hcl hax => ?_))
      refine hcl _ _ _ _ (w_X9_isDeed (n := nI s) hm.2.2.2.1 (fun _ _ => ?_) (fun c0 => absurd (And.intro a1 a2) c0))
      refine ⟨fun _ => ?_, fun h9 => absurd h9 (by decide)⟩
      refine hax _ _ _ _ (lp_X9_whose (A := A) k12 (by omega) hm.2.2.1 _ rfl (fun j hj => (ec j hj).2) (fun _ => ?_) (fun c2 => ?_) (0, none) (by omega))
      · exact hK _ _ ⟨rfl, rfl, h⟩
      · exfalso
        clear hcl hax hK ec
        grind
    · refine hcl _ _ _ _ (w_X8_refuse 3 (by decide) (by decide) ?_)
      refine hK _ _ ?_
      clear hcl hax
      clear cl ax
      refine mCall_k (fun K hK => ?_)
      refine mCall_sem MX9_whose rfl rfl (Or.inl ⟨rfl, rfl, rfl⟩) rfl (mSem_wp MX9_whose rfl aX9_whose 300 [19] (fun cl ax hcl hax => ?_))
      refine hcl _ _ _ _ (w_X9_isDeed (n := nI s) hm.2.2.2.1 (fun _ _ => ?_) (fun c0 => absurd (And.intro a1 a2) c0))
      refine ⟨fun _ => ?_, fun h9 => absurd h9 (by decide)⟩
      refine hax _ _ _ _ (lp_X9_whose (A := cnt1 A 3) k12 (by omega) hm.2.2.1 _ rfl (fun j hj => (ec j hj).2) (fun c2 => ?_) (fun _ => ?_) (0, none) (by omega))
      · exfalso
        have c2 : ¬ nw (G1 (A 75)) (fun j => A 75 (16 + 5 * j)) (fun j => A 75 (17 + 5 * j)) (A 75 (75 + 2 * t)) (mn (A 75 0) (A 75 (76 + 2 * t))) k < 0 := c2
        clear hcl hax hK ec
        grind
      · exact hK _ _ (rEnd_cnt h (by decide))
  · refine ⟨fun h9 => absurd h9 (by decide), fun _ => ?_⟩
    refine hcl _ _ _ _ (w_X8_refuse 0 (by decide) (by decide) ?_)
    refine hK _ _ ?_
    clear hcl hax
    clear cl ax
    refine mCall_k (fun K hK => ?_)
    refine mCall_sem MX9_whose rfl rfl (Or.inl ⟨rfl, rfl, rfl⟩) rfl (mSem_wp MX9_whose rfl aX9_whose 300 [] (fun cl ax hcl hax => ?_))
    refine hcl _ _ _ _ (w_X9_isDeed (n := nI s) hm.2.2.2.1 (fun c1 c2 => absurd (And.intro c1 c2) a0) (fun _ => ?_))
    refine ⟨fun h9 => absurd h9 (by decide), fun _ => ?_⟩
    exact hcl _ _ _ _ (w_X9_finding 0 (by decide) (by decide) (hK _ _ (rEnd_cnt h (by decide))))
