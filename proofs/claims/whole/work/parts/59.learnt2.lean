/-! learnt, the operation -/
def lr (G : Nat → Bool) : Nat → Int32 × Int32 × Nat
  | 0 => (-1, -1, 0)
  | p + 1 => match G p with
    | true => ((match (lr G p).2.2 with
      | 0 => nI p
      | _ + 1 => (lr G p).1), nI p, (lr G p).2.2 + 1)
    | false => lr G p
theorem lr_t {G : Nat → Bool} {p : Nat} (h : G p = true) : lr G (p + 1) = ((match (lr G p).2.2 with
      | 0 => nI p
      | _ + 1 => (lr G p).1), nI p, (lr G p).2.2 + 1) := by
  rw [lr, h]
theorem lr_f {G : Nat → Bool} {p : Nat} (h : G p = false) : lr G (p + 1) = lr G p := by
  rw [lr, h]
theorem lr_t0 {G : Nat → Bool} {p : Nat} (h : G p = true) (h0 : (lr G p).2.2 = 0) : lr G (p + 1) = (nI p, nI p, (lr G p).2.2 + 1) := by
  rw [lr_t h]
  generalize lr G p = z at h0
  obtain ⟨a, b, c⟩ := z
  cases h0
  rfl
theorem lr_t1 {G : Nat → Bool} {p : Nat} (h : G p = true) (h0 : ¬ (lr G p).2.2 = 0) : lr G (p + 1) = ((lr G p).1, nI p, (lr G p).2.2 + 1) := by
  rw [lr_t h]
  generalize lr G p = z at h0
  obtain ⟨a, b, c⟩ := z
  cases c with
  | zero => exact absurd rfl h0
  | succ c => rfl
theorem lr_b (G : Nat → Bool) : ∀ p, p ≤ 61 → (lr G p).2.2 ≤ p ∧ ((lr G p).2.2 = 0 ↔ (lr G p).1 < 0)
  | 0, _ => ⟨Nat.le_refl _, show (0 : Nat) = 0 ↔ (-1 : Int32) < 0 by decide⟩
  | p + 1, hp => by
    have ih := lr_b G p (by omega)
    cases hg : G p with
    | false => rw [lr_f hg]; exact ⟨by omega, ih.2⟩
    | true =>
      by_cases h0 : (lr G p).2.2 = 0
      · rw [lr_t0 hg h0]
        exact ⟨by show _ + 1 ≤ p + 1; omega, ⟨fun q => absurd q (by show ¬ _ + 1 = 0; omega), fun q => absurd q (nI_pos (by omega))⟩⟩
      · rw [lr_t1 hg h0]
        exact ⟨by show _ + 1 ≤ p + 1; omega, ⟨fun q => absurd q (by show ¬ _ + 1 = 0; omega), fun q => absurd (ih.2.mpr q) h0⟩⟩
/-- the answer -/
def lrK (K : MK) (h hf : MH) (z : Int32 × Int32 × Nat) (u : Int32) : Prop := (u = 2 → K (some (.int (nI z.2.2))) h) ∧ (¬ u = 2 → z.2.2 = 0 → K (some (.int (-1000000004))) hf) ∧ (¬ u = 2 → ¬ z.2.2 = 0 → u = 0 → K (some (.int z.1)) h) ∧ (¬ u = 2 → ¬ z.2.2 = 0 → ¬ u = 0 → K (some (.int z.2.1)) h)
theorem lp_X8_learnt {E : ME} {d : Nat} {A : Nat → Nat → Int32} {B : Nat → Nat → Int64} {K : MK} {k : Nat} {ln u : Int32} {G : Nat → Bool} (hk : k ≤ 10) (hx : A 13 0 = nI k) (hb : ∀ s, s < k → (0 ≤ A 15 s ∧ A 15 s ≤ 999) ∧ (1 ≤ A 16 s ∧ A 16 s ≤ 60)) (w0 : 0 ≤ A 2 1) (w1 : A 2 1 ≤ 127) (hG : ∀ p, G p = true ↔ ∀ s, s < k → FSx A ln (nI p) s) (hK : lrK K (SH, A, B) (SH, cnt1 A 3, B) (lr G 61) u) : ∀ p, p ≤ 61 → mSem E (d + 3) nX8_learnt (SH, A, B) 0 0 K 34 [some (.ref 0), some (.int ln), some (.int u), some (.int (lr G p).1), some (.int (lr G p).2.1), some (.int (nI (lr G p).2.2)), some (.int (nI p))] [] (SH, A, B) := by
  refine mSem_loop (h0 := (SH, A, B)) MX8_learnt rfl aX8_learnt 300 [34] (fun p => [some (.ref 0), some (.int ln), some (.int u), some (.int (lr G p).1), some (.int (lr G p).2.1), some (.int (nI (lr G p).2.2)), some (.int (nI p))]) (fun p => (SH, A, B)) (fun p => p ≤ 61) (fun p => 61 - p) ?_
  intro p hp cl ax hcl hax hlp
  have hb2 := lr_b G p hp
  refine ⟨fun (c : nI 60 < nI p) => ?_, fun (c : ¬ nI 60 < nI p) => ?_⟩
  · rw [nI_ltI (by omega) (by omega)] at c
    have : p = 61 := by omega
    subst this
    obtain ⟨q1, q2, q3, q4⟩ := hK
    refine ⟨fun (c1 : ¬ u = 2) => ?_, fun (c1 : u = 2) => q1 c1⟩
    refine ⟨fun (c2 : ¬ nI (lr G 61).2.2 = 0) => ?_, fun (c2 : nI (lr G 61).2.2 = 0) => ?_⟩
    · have c3 : ¬ (lr G 61).2.2 = 0 := fun q => c2 (by rw [q]; rfl)
      exact ⟨fun c4 => q4 c1 c3 c4, fun c4 => q3 c1 c3 c4⟩
    · have c3 : (lr G 61).2.2 = 0 := (nI_eq (by omega) (by omega)).mp (show nI (lr G 61).2.2 = nI 0 from c2)
      exact hcl _ _ _ _ (w_X8_refuse 3 (by decide) (by decide) (q2 c1 c3))
  · rw [nI_ltI (by omega) (by omega)] at c
    have this : ax 34 [some (.ref 0), some (.int ln), some (.int u), some (.int (lr G (p + 1)).1), some (.int (lr G (p + 1)).2.1), some (.int (nI (lr G (p + 1)).2.2)), some (.int (nI (p + 1)))] [] (SH, A, B) := hlp (p + 1) (by omega) (by omega)
    rw [← nI_1] at this
    refine hcl _ _ _ _ (w_fit hk hx hb w0 w1 (fun c1 => ?_) (fun c1 => ?_))
    · have g := (hG p).mpr c1
      refine ⟨fun h9 => absurd h9 (by decide), fun _ => ?_⟩
      refine ⟨fun (c2 : ¬ nI (lr G p).2.2 = 0) => ?_, fun (c2 : nI (lr G p).2.2 = 0) => ?_⟩
      · have c3 : ¬ (lr G p).2.2 = 0 := fun q => c2 (by rw [q]; rfl)
        rw [lr_t1 g c3] at this
        have this : ax 34 [some (.ref 0), some (.int ln), some (.int u), some (.int (lr G p).1), some (.int (nI p)), some (.int (nI ((lr G p).2.2 + 1))), some (.int (nI p + 1))] [] (SH, A, B) := this
        rw [← nI_1] at this
        exact this
      · have c3 : (lr G p).2.2 = 0 := (nI_eq (by omega) (by omega)).mp (show nI (lr G p).2.2 = nI 0 from c2)
        rw [lr_t0 g c3] at this
        have this : ax 34 [some (.ref 0), some (.int ln), some (.int u), some (.int (nI p)), some (.int (nI p)), some (.int (nI ((lr G p).2.2 + 1))), some (.int (nI p + 1))] [] (SH, A, B) := this
        rw [← nI_1] at this
        exact this
    · have g : G p = false := by
        cases e : G p with
        | false => rfl
        | true => exact absurd ((hG p).mp e) c1
      refine ⟨fun _ => ?_, fun h9 => absurd h9 (by decide)⟩
      rw [lr_f g] at this
      exact this
theorem lp_X9_learnt {E : ME} {d : Nat} {A : Nat → Nat → Int32} {B : Nat → Nat → Int64} {K : MK} {k : Nat} {ln u : Int32} {G : Nat → Bool} (hk : k ≤ 10) (hx : A 75 5 = nI k) (hb : ∀ s, s < k → 1 ≤ A 75 (97 + 4 * s) ∧ A 75 (97 + 4 * s) ≤ 60) (hG : ∀ p, G p = true ↔ ∀ s, s < k → FSm (A 75) ln (nI p) s) (hK : lrK K (SH, A, B) (SH, cnt2 A 3, B) (lr G 61) u) : ∀ p, p ≤ 61 → mSem E (d + 3) nX9_learnt (SH, A, B) 0 0 K 34 [some (.ref 74), some (.int ln), some (.int u), some (.int (lr G p).1), some (.int (lr G p).2.1), some (.int (nI (lr G p).2.2)), some (.int (nI p))] [] (SH, A, B) := by
  refine mSem_loop (h0 := (SH, A, B)) MX9_learnt rfl aX9_learnt 300 [34] (fun p => [some (.ref 74), some (.int ln), some (.int u), some (.int (lr G p).1), some (.int (lr G p).2.1), some (.int (nI (lr G p).2.2)), some (.int (nI p))]) (fun p => (SH, A, B)) (fun p => p ≤ 61) (fun p => 61 - p) ?_
  intro p hp cl ax hcl hax hlp
  have hb2 := lr_b G p hp
  refine ⟨fun (c : nI 60 < nI p) => ?_, fun (c : ¬ nI 60 < nI p) => ?_⟩
  · rw [nI_ltI (by omega) (by omega)] at c
    have : p = 61 := by omega
    subst this
    obtain ⟨q1, q2, q3, q4⟩ := hK
    refine ⟨fun (c1 : ¬ u = 2) => ?_, fun (c1 : u = 2) => q1 c1⟩
    refine ⟨fun (c2 : ¬ nI (lr G 61).2.2 = 0) => ?_, fun (c2 : nI (lr G 61).2.2 = 0) => ?_⟩
    · have c3 : ¬ (lr G 61).2.2 = 0 := fun q => c2 (by rw [q]; rfl)
      exact ⟨fun c4 => q4 c1 c3 c4, fun c4 => q3 c1 c3 c4⟩
    · have c3 : (lr G 61).2.2 = 0 := (nI_eq (by omega) (by omega)).mp (show nI (lr G 61).2.2 = nI 0 from c2)
      exact hcl _ _ _ _ (w_X9_finding 3 (by decide) (by decide) (q2 c1 c3))
  · rw [nI_ltI (by omega) (by omega)] at c
    have this : ax 34 [some (.ref 74), some (.int ln), some (.int u), some (.int (lr G (p + 1)).1), some (.int (lr G (p + 1)).2.1), some (.int (nI (lr G (p + 1)).2.2)), some (.int (nI (p + 1)))] [] (SH, A, B) := hlp (p + 1) (by omega) (by omega)
    rw [← nI_1] at this
    refine hcl _ _ _ _ (w_holdsAll hk hx hb (fun c1 => ?_) (fun c1 => ?_))
    · have g := (hG p).mpr c1
      refine ⟨fun h9 => absurd h9 (by decide), fun _ => ?_⟩
      refine ⟨fun (c2 : 0 ≤ (lr G p).1) => ?_, fun (c2 : ¬ 0 ≤ (lr G p).1) => ?_⟩
      · have c3 : ¬ (lr G p).2.2 = 0 := fun q => by
          have := hb2.2.mp q
          clear hcl hax hlp hb hG hK
          grind
        rw [lr_t1 g c3] at this
        have this : ax 34 [some (.ref 74), some (.int ln), some (.int u), some (.int (lr G p).1), some (.int (nI p)), some (.int (nI ((lr G p).2.2 + 1))), some (.int (nI p + 1))] [] (SH, A, B) := this
        rw [← nI_1] at this
        exact this
      · have c3 : (lr G p).2.2 = 0 := hb2.2.mpr (by clear hcl hax hlp hb hG hK; grind)
        rw [lr_t0 g c3] at this
        have this : ax 34 [some (.ref 74), some (.int ln), some (.int u), some (.int (nI p)), some (.int (nI p)), some (.int (nI ((lr G p).2.2 + 1))), some (.int (nI p + 1))] [] (SH, A, B) := this
        rw [← nI_1] at this
        exact this
    · have g : G p = false := by
        cases e : G p with
        | false => rfl
        | true => exact absurd ((hG p).mp e) c1
      refine ⟨fun _ => ?_, fun h9 => absurd h9 (by decide)⟩
      rw [lr_f g] at this
      exact this
theorem op_learnt {E : ME} {v u : Int32} {A : Nat → Nat → Int32} {B : Nat → Nat → Int64} (h : rAll A B) : rOp E nX8_learnt nX9_learnt [.int v, .int u] A B := by
  have hice := h.1.1
  have hw2 : A 2 1 = A 75 2 := hice.1.2.1
  have hwr := hice.2.2.2.2.1
  obtain ⟨k, k10, k2, k3, k4⟩ := h.1.2.2.2
  have hb1 : ∀ s, s < k → (0 ≤ A 15 s ∧ A 15 s ≤ 999) ∧ (1 ≤ A 16 s ∧ A 16 s ≤ 60) := fun s hs => by
    rw [(k4 s hs).1.2.1, (k4 s hs).1.2.2.1]
    exact (k4 s hs).2
  have hb2 : ∀ s, s < k → 1 ≤ A 75 (97 + 4 * s) ∧ A 75 (97 + 4 * s) ≤ 60 := fun s hs => (k4 s hs).2.2
  obtain ⟨G, hG⟩ : ∃ G : Nat → Bool, ∀ p, G p = true ↔ ∀ s, s < k → FSm (A 75) v (nI p) s := ⟨fun p => @decide (∀ s, s < k → FSm (A 75) v (nI p) s) (Classical.propDecidable _), fun p => @decide_eq_true_iff _ (Classical.propDecidable _)⟩
  have hG1 : ∀ p, G p = true ↔ ∀ s, s < k → FSx A v (nI p) s := fun p => by
    rw [hG p]
    have e : ∀ s, s < k → (FSx A v (nI p) s ↔ FSm (A 75) v (nI p) s) := fun s hs => by
      unfold FSx FSm
      obtain ⟨q1, q2, q3, q4⟩ := (k4 s hs).1
      rw [q1, q2, q3, q4, hw2]
    exact ⟨fun q s hs => (e s hs).mpr (q s hs), fun q s hs => (e s hs).mp (q s hs)⟩
  refine rOp_of (fun K hK => ?_)
  refine mCall_sem MX8_learnt rfl rfl (Or.inl ⟨rfl, rfl, rfl⟩) rfl (mSem_wp MX8_learnt rfl aX8_learnt 300 [34] (fun cl ax hcl hax => ?_))
  refine hcl _ _ _ _ (w_X8_isLane (fun d1 d2 => ?_) (fun d0 => ?_))
  · refine ⟨fun h9 => absurd h9 (by decide), fun _ => ?_⟩
    refine hcl _ _ _ _ (w_X8 (fun b1 b2 => ?_) (fun b0 => ?_))
    · refine ⟨fun _ => ?_, fun h9 => absurd h9 (by decide)⟩
      have go : ∀ (A' : Nat → Nat → Int32) (hA : A' 75 = A 75) (K : MK), lrK K (SH, A', B) (SH, cnt2 A' 3, B) (lr G 61) u → mCall E 12 nX9_learnt [.ref 74, .int v, .int u] (SH, A', B) K := by
        intro A' hA K hK
        refine mCall_sem MX9_learnt rfl rfl (Or.inl ⟨rfl, rfl, rfl⟩) rfl (mSem_wp MX9_learnt rfl aX9_learnt 300 [34] (fun cl ax hcl hax => ?_))
        refine hcl _ _ _ _ (w_X9_isLane (fun _ _ => ?_) (fun c0 => absurd (And.intro d1 d2) c0))
        refine ⟨fun h9 => absurd h9 (by decide), fun _ => ?_⟩
        refine hcl _ _ _ _ (w_X9 (fun _ _ => ?_) (fun c0 => absurd (And.intro b1 b2) c0))
        refine ⟨fun _ => ?_, fun h9 => absurd h9 (by decide)⟩
        exact hax _ _ _ _ (lp_X9_learnt (d := 9) (A := A') k10 (by rw [hA]; exact k3) (by rw [hA]; exact hb2) (by rw [hA]; exact hG) hK 0 (by omega))
      refine hax _ _ _ _ (lp_X8_learnt (d := 9) k10 k2 hb1 (by rw [hw2]; exact hwr.1) (by rw [hw2]; exact hwr.2) hG1 ⟨fun c => ?_, fun c c2 => ?_, fun c c2 c3 => ?_, fun c c2 c3 => ?_⟩ 0 (by omega))
      · exact hK _ _ (go A rfl _ ⟨fun _ => ⟨rfl, rfl, h⟩, fun q => absurd c q, fun q => absurd c q, fun q => absurd c q⟩)
      · exact hK _ _ (go (cnt1 A 3) rfl _ ⟨fun q => absurd q c, fun _ _ => rEnd_cnt h (by decide), fun _ q => absurd c2 q, fun _ q => absurd c2 q⟩)
      · exact hK _ _ (go A rfl _ ⟨fun q => absurd q c, fun _ q => absurd q c2, fun _ _ _ => ⟨rfl, rfl, h⟩, fun _ _ q => absurd c3 q⟩)
      · exact hK _ _ (go A rfl _ ⟨fun q => absurd q c, fun _ q => absurd q c2, fun _ _ q => absurd q c3, fun _ _ _ => ⟨rfl, rfl, h⟩⟩)
    · refine ⟨fun h9 => absurd h9 (by decide), fun _ => ?_⟩
      refine hcl _ _ _ _ (w_X8_refuse 0 (by decide) (by decide) ?_)
      refine hK _ _ ?_
      clear hcl hax
      clear cl ax
      refine mCall_k (fun K hK => ?_)
      refine mCall_sem MX9_learnt rfl rfl (Or.inl ⟨rfl, rfl, rfl⟩) rfl (mSem_wp MX9_learnt rfl aX9_learnt 300 [] (fun cl ax hcl hax => ?_))
      refine hcl _ _ _ _ (w_X9_isLane (fun _ _ => ?_) (fun c0 => absurd (And.intro d1 d2) c0))
      refine ⟨fun h9 => absurd h9 (by decide), fun _ => ?_⟩
      refine hcl _ _ _ _ (w_X9 (fun c1 c2 => absurd (And.intro c1 c2) b0) (fun _ => ?_))
      refine ⟨fun h9 => absurd h9 (by decide), fun _ => ?_⟩
      exact hcl _ _ _ _ (w_X9_finding 0 (by decide) (by decide) (hK _ _ (rEnd_cnt h (by decide))))
  · refine ⟨fun _ => ?_, fun h9 => absurd h9 (by decide)⟩
    refine hcl _ _ _ _ (w_X8_refuse 0 (by decide) (by decide) ?_)
    refine hK _ _ ?_
    clear hcl hax
    clear cl ax
    refine mCall_k (fun K hK => ?_)
    refine mCall_sem MX9_learnt rfl rfl (Or.inl ⟨rfl, rfl, rfl⟩) rfl (mSem_wp MX9_learnt rfl aX9_learnt 300 [] (fun cl ax hcl hax => ?_))
    refine hcl _ _ _ _ (w_X9_isLane (fun c1 c2 => absurd (And.intro c1 c2) d0) (fun _ => ?_))
    refine ⟨fun _ => ?_, fun h9 => absurd h9 (by decide)⟩
    exact hcl _ _ _ _ (w_X9_finding 0 (by decide) (by decide) (hK _ _ (rEnd_cnt h (by decide))))
