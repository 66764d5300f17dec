/-! THE YEARS -/
theorem up_sw {α : Type} {A : Nat → α} {a b : Nat} {F F' G : α} (h : a ≠ b) : va_up (va_up (va_up A a F) b G) a F' = va_up (va_up A a F') b G := by
  funext q
  unfold va_up
  by_cases c : q = a
  · subst c
    simp [h]
  · simp [c]
theorem up_up {α : Type} {A : Nat → α} {a : Nat} {F F' : α} : va_up (va_up A a F) a F' = va_up A a F' := by
  funext q
  unfold va_up
  by_cases c : q = a <;> simp [c]
theorem up5 {α : Type} {A : Nat → α} {a b : Nat} (F G F1 : α) {F2 G1 : α} (h : a ≠ b) : va_up (va_up (va_up (va_up (va_up A a F) b G) a F1) a F2) b G1 = va_up (va_up A a F2) b G1 := by
  rw [up_sw h, up_sw h, up_up]
def st1 (ed s : Int32) (p : Int32 × Int32) : Int32 × Int32 := if p.2 = 0 then (if p.1 + s < ed then (p.1 + s, 0) else (ed, 1)) else p
def Lc (ed s : Int32) (p : Int32 × Int32) : Int32 := if p.2 = 0 then (if p.1 + s < ed then 0 else 1) else 0
def tr (ed : Int32) (s : Int32 → Int32) (y0 : Int32) (p : Int32 × Int32) : Nat → Int32 × Int32
  | 0 => p
  | n + 1 => st1 ed (s (y0 + nI n)) (tr ed s y0 p n)
def Lx (mask ed : Int32) (s : Nat → Int32) (F G : Nat → Int32) (i : Nat) : Int32 := if (mask >>> (nI i &&& 31)) &&& 1 = 0 then 0 else Lc ed (s i) (F i, G i)
def gI (k : Nat) (mask ed : Int32) (s : Nat → Int32) (F0 G0 : Nat → Int32) (t : Nat × Int32 × (Nat → Int32) × (Nat → Int32)) : Prop := t.1 ≤ k ∧ (∀ i, t.1 ≤ i → t.2.2.1 i = F0 i ∧ t.2.2.2 i = G0 i) ∧ (∀ i, i < t.1 → ¬ (mask >>> (nI i &&& 31)) &&& 1 = 0 → (t.2.2.1 i, t.2.2.2 i) = st1 ed (s i) (F0 i, G0 i)) ∧ t.2.1 = su (Lx mask ed s F0 G0) t.1
theorem gI_skip {k : Nat} {mask ed : Int32} {s F0 G0 : Nat → Int32} {j : Nat} {c : Int32} {F G : Nat → Int32} (h : gI k mask ed s F0 G0 (j, c, F, G)) (hj : j < k) (hm : (mask >>> (nI j &&& 31)) &&& 1 = 0 ∨ ¬ G0 j = 0) : gI k mask ed s F0 G0 (j + 1, c, F, G) := by
  obtain ⟨h1, h2, h3, h4⟩ := h
  refine ⟨hj, fun i hi => h2 i (by omega), fun i hi hb => ?_, ?_⟩
  · by_cases e : i = j
    · subst e
      rcases hm with q | q
      · exact absurd q hb
      · unfold st1
        rw [if_neg q]
        have := h2 i (Nat.le_refl _)
        exact Prod.ext this.1 this.2
    · exact h3 i (by omega) hb
  · show c = su _ (j + 1)
    rw [su, ← h4]
    have : Lx mask ed s F0 G0 j = 0 := by
      unfold Lx Lc
      rcases hm with q | q
      · rw [if_pos q]
      · rw [if_neg q]; split <;> rfl
    rw [this]
    show c = c + 0
    grind
theorem gI_go {k : Nat} {mask ed : Int32} {s F0 G0 : Nat → Int32} {j : Nat} {c : Int32} {F G F' G' : Nat → Int32} {c' : Int32} (h : gI k mask ed s F0 G0 (j, c, F, G)) (hj : j < k) (hm : ¬ (mask >>> (nI j &&& 31)) &&& 1 = 0) (hF : ∀ i, i ≠ j → F' i = F i ∧ G' i = G i) (he : (F' j, G' j) = st1 ed (s j) (F0 j, G0 j)) (hc : c' = c + Lc ed (s j) (F0 j, G0 j)) : gI k mask ed s F0 G0 (j + 1, c', F', G') := by
  obtain ⟨h1, h2, h3, h4⟩ := h
  refine ⟨hj, fun i hi => ?_, fun i hi hb => ?_, ?_⟩
  · have := h2 i (show j ≤ i by simp only at hi; omega)
    have q := hF i (by simp only at hi; omega)
    exact ⟨q.1.trans this.1, q.2.trans this.2⟩
  · by_cases e : i = j
    · subst e
      exact he
    · have q := hF i e
      have := h3 i (by simp only at hi ⊢; omega) hb
      show (F' i, G' i) = _
      rw [q.1, q.2]
      exact this
  · show c' = su _ (j + 1)
    rw [su, hc]
    have h4 : c = su _ j := h4
    rw [← h4]
    unfold Lx
    rw [if_neg hm]
theorem lp_goYear4 {E : ME} {d : Nat} {A : Nat → Nat → Int32} {B : Nat → Nat → Int64} {K : MK} {k : Nat} {y mask : Int32} {s : Nat → Int32} {F0 G0 : Nat → Int32} (hk : k ≤ 12) (hx : A 4 0 = nI k) (hl : ∀ i, i < k → 0 ≤ A 6 i ∧ A 6 i ≤ 8) (hs : ∀ i, i < k → s i = SD (A 2 1) (A 3) (A 5 i) (A 6 i) (A 8 i) y) (hK : ∀ F G, gI k mask (A 2 0) s F0 G0 (k, su (Lx mask (A 2 0) s F0 G0) k, F, G) → K (some (.int (su (Lx mask (A 2 0) s F0 G0) k))) (SH, va_up (va_up A 7 F) 9 G, B)) (A0 : Nat → Nat → Int32) : ∀ t, gI k mask (A 2 0) s F0 G0 t → mSem E (d + 4) nX1_goYear (SH, A0, B) 0 0 K 6 [some (.ref 4), some (.ref 2), some (.int y), some (.int mask), some (.int t.2.1), some (.int (nI t.1))] [] (SH, va_up (va_up A 7 t.2.2.1) 9 t.2.2.2, B) := by
  refine mSem_loop (h0 := (SH, A0, B)) MX1_goYear rfl aX1_goYear 300 [6] (fun t => [some (.ref 4), some (.ref 2), some (.int y), some (.int mask), some (.int t.2.1), some (.int (nI t.1))]) (fun t => (SH, va_up (va_up A 7 t.2.2.1) 9 t.2.2.2, B)) (gI k mask (A 2 0) s F0 G0) (fun t => k - t.1) ?_
  rintro ⟨j, c, F, G⟩ hI cl ax hcl hax hlp
  have hj : j ≤ k := hI.1
  have e8 : (nI j).toNatClampNeg = j := nI_clamp (by omega)
  refine ⟨fun (c0 : A 4 0 ≤ nI j) => ?_, fun (c0 : ¬ A 4 0 ≤ nI j) => ?_⟩
  · rw [hx, nI_leI (by omega) (by omega)] at c0
    have : j = k := by omega
    subst this
    have h4 : c = su _ j := hI.2.2.2
    subst h4
    exact hK F G hI
  · rw [hx, nI_leI (by omega) (by omega)] at c0
    have hjk : j < k := by omega
    have hv : vp_in (nI j) 12 := vp_in_nI (by omega) (by decide)
    have h2 : F j = F0 j ∧ G j = G0 j := hI.2.1 j (Nat.le_refl _)
    have skip : ((mask >>> (nI j &&& 31)) &&& 1 = 0 ∨ ¬ G0 j = 0) → ax 6 [some (.ref 4), some (.ref 2), some (.int y), some (.int mask), some (.int c), some (.int (nI j + 1))] [] (SH, va_up (va_up A 7 F) 9 G, B) := fun q => by
      rw [nI_1]
      exact hlp (j + 1, c, F, G) (gI_skip hI hjk q) (by show k - (j + 1) < k - j; omega)
    refine ⟨fun c1 => skip (Or.inl c1), fun c1 => ?_⟩
    refine ⟨hv, ?_⟩
    refine ⟨fun (c2 : G (nI j).toNatClampNeg = 0) => ?_, fun (c2 : ¬ G (nI j).toNatClampNeg = 0) => skip (Or.inr (by rw [e8, h2.2] at c2; exact c2))⟩
    refine ⟨hv, ?_⟩
    refine hcl _ _ _ _ (w_strideOf4 j (by omega) (hl j hjk).1 (hl j hjk).2 (fun _ => ?_) (fun (c3 : ¬ G j = 0) => absurd (by rw [e8] at c2; exact c2) c3))
    have es : SD (A 2 1) (A 3) (A 5 j) (A 6 j) (A 8 j) y = s j := (hs j hjk).symm
    refine ⟨hv, ?_⟩
    refine ⟨hv, ?_⟩
    have ef : upd F (nI j).toNatClampNeg (F (nI j).toNatClampNeg + SD (A 2 1) (A 3) (A 5 j) (A 6 j) (A 8 j) y) (nI j).toNatClampNeg = F0 j + s j := by
      rw [ud_s, e8, es, h2.1]
    have c2' : G0 j = 0 := by rw [e8, h2.2] at c2; exact c2
    refine ⟨fun c3 => ?_, fun c3 => ?_⟩
    · have c3 : upd F (nI j).toNatClampNeg (F (nI j).toNatClampNeg + SD (A 2 1) (A 3) (A 5 j) (A 6 j) (A 8 j) y) (nI j).toNatClampNeg < A 2 0 := c3
      rw [ef] at c3
      have this : ax 6 [some (.ref 4), some (.ref 2), some (.int y), some (.int mask), some (.int c), some (.int (nI j + 1))] [] (SH, va_up (va_up A 7 (upd F (nI j).toNatClampNeg (F (nI j).toNatClampNeg + SD (A 2 1) (A 3) (A 5 j) (A 6 j) (A 8 j) y))) 9 G, B) := by
        rw [nI_1]
        refine hlp (j + 1, c, _, G) (gI_go hI hjk c1 (fun i hi => ⟨ud_n (by rw [e8]; exact hi), rfl⟩) ?_ ?_) (by show k - (j + 1) < k - j; omega)
        · unfold st1
          rw [if_pos c2', if_pos c3]
          refine Prod.ext ?_ (h2.2.trans c2')
          show upd F (nI j).toNatClampNeg _ j = F0 j + s j
          rw [← ef, e8]
        · unfold Lc
          rw [if_pos c2', if_pos c3]
          grind
      rw [← up_sw (F := F) (by decide)] at this
      exact this
    · have c3 : ¬ upd F (nI j).toNatClampNeg (F (nI j).toNatClampNeg + SD (A 2 1) (A 3) (A 5 j) (A 6 j) (A 8 j) y) (nI j).toNatClampNeg < A 2 0 := c3
      rw [ef] at c3
      refine ⟨hv, ?_⟩
      refine ⟨hv, ?_⟩
      have this : ax 6 [some (.ref 4), some (.ref 2), some (.int y), some (.int mask), some (.int (c + 1)), some (.int (nI j + 1))] [] (SH, va_up (va_up A 7 (upd (upd F (nI j).toNatClampNeg (F (nI j).toNatClampNeg + SD (A 2 1) (A 3) (A 5 j) (A 6 j) (A 8 j) y)) (nI j).toNatClampNeg (A 2 0))) 9 (upd G (nI j).toNatClampNeg 1), B) := by
        rw [nI_1]
        refine hlp (j + 1, c + 1, _, _) (gI_go hI hjk c1 (fun i hi => ⟨?_, ud_n (by rw [e8]; exact hi)⟩) ?_ ?_) (by show k - (j + 1) < k - j; omega)
        · show upd (upd F _ _) _ _ i = F i
          rw [e8, ud_n hi, ud_n hi]
        · unfold st1
          rw [if_pos c2', if_neg c3]
          refine Prod.ext ?_ ?_
          · show upd (upd F _ _) _ _ j = A 2 0
            rw [e8, ud_s]
          · show upd G _ 1 j = 1
            rw [e8, ud_s]
        · unfold Lc
          rw [if_pos c2', if_neg c3]
      rw [← up5 F G (upd F (nI j).toNatClampNeg (F (nI j).toNatClampNeg + SD (A 2 1) (A 3) (A 5 j) (A 6 j) (A 8 j) y)) (show 7 ≠ 9 by decide)] at this
      exact this
theorem w_goYear4 {E : ME} {d : Nat} {A : Nat → Nat → Int32} {B : Nat → Nat → Int64} {K : MK} {k : Nat} {y mask : Int32} (hk : k ≤ 12) (hx : A 4 0 = nI k) (hl : ∀ i, i < k → 0 ≤ A 6 i ∧ A 6 i ≤ 8) (s : Nat → Int32) (hs : ∀ i, i < k → s i = SD (A 2 1) (A 3) (A 5 i) (A 6 i) (A 8 i) y) (hK : ∀ F G, (∀ i, i < k → ¬ (mask >>> (nI i &&& 31)) &&& 1 = 0 → (F i, G i) = st1 (A 2 0) (s i) (A 7 i, A 9 i)) → K (some (.int (su (Lx mask (A 2 0) s (A 7) (A 9)) k))) (SH, va_up (va_up A 7 F) 9 G, B)) : mCall E (d + 4) nX1_goYear [.ref 4, .ref 2, .int y, .int mask] (SH, A, B) K := by
  refine mCall_sem MX1_goYear rfl rfl (Or.inl ⟨rfl, rfl, rfl⟩) rfl (mSem_wp MX1_goYear rfl aX1_goYear 300 [6] (fun cl ax hcl hax => ?_))
  have e : va_up (va_up A 7 (A 7)) 9 (A 9) = A := by
    funext q
    unfold va_up
    split
    · rename_i c; rw [c]
    · split
      · rename_i c; rw [c]
      · rfl
  have this := lp_goYear4 (E := E) (d := d) (B := B) (K := K) (mask := mask) (s := s) (F0 := A 7) (G0 := A 9) hk hx hl hs (fun F G q => hK F G q.2.2.1) A (0, 0, A 7, A 9) ⟨by omega, fun i _ => ⟨rfl, rfl⟩, fun i hi => absurd hi (by simp), rfl⟩
  rw [e] at this
  exact hax _ _ _ _ this
theorem lp_goYear35 {E : ME} {d : Nat} {A : Nat → Nat → Int32} {B : Nat → Nat → Int64} {K : MK} {k : Nat} {y mask : Int32} {s : Nat → Int32} {F0 G0 : Nat → Int32} (hk : k ≤ 12) (hx : A 35 0 = nI k) (hl : ∀ i, i < k → 0 ≤ A 37 i ∧ A 37 i ≤ 8) (hs : ∀ i, i < k → s i = SD (A 2 1) (A 3) (A 36 i) (A 37 i) (A 39 i) y) (hK : ∀ F G, gI k mask (A 2 0) s F0 G0 (k, su (Lx mask (A 2 0) s F0 G0) k, F, G) → K (some (.int (su (Lx mask (A 2 0) s F0 G0) k))) (SH, va_up (va_up A 38 F) 40 G, B)) (A0 : Nat → Nat → Int32) : ∀ t, gI k mask (A 2 0) s F0 G0 t → mSem E (d + 4) nX1_goYear (SH, A0, B) 0 0 K 6 [some (.ref 35), some (.ref 2), some (.int y), some (.int mask), some (.int t.2.1), some (.int (nI t.1))] [] (SH, va_up (va_up A 38 t.2.2.1) 40 t.2.2.2, B) := by
  refine mSem_loop (h0 := (SH, A0, B)) MX1_goYear rfl aX1_goYear 300 [6] (fun t => [some (.ref 35), some (.ref 2), some (.int y), some (.int mask), some (.int t.2.1), some (.int (nI t.1))]) (fun t => (SH, va_up (va_up A 38 t.2.2.1) 40 t.2.2.2, B)) (gI k mask (A 2 0) s F0 G0) (fun t => k - t.1) ?_
  rintro ⟨j, c, F, G⟩ hI cl ax hcl hax hlp
  have hj : j ≤ k := hI.1
  have e8 : (nI j).toNatClampNeg = j := nI_clamp (by omega)
  refine ⟨fun (c0 : A 35 0 ≤ nI j) => ?_, fun (c0 : ¬ A 35 0 ≤ nI j) => ?_⟩
  · rw [hx, nI_leI (by omega) (by omega)] at c0
    have : j = k := by omega
    subst this
    have h4 : c = su _ j := hI.2.2.2
    subst h4
    exact hK F G hI
  · rw [hx, nI_leI (by omega) (by omega)] at c0
    have hjk : j < k := by omega
    have hv : vp_in (nI j) 12 := vp_in_nI (by omega) (by decide)
    have h2 : F j = F0 j ∧ G j = G0 j := hI.2.1 j (Nat.le_refl _)
    have skip : ((mask >>> (nI j &&& 31)) &&& 1 = 0 ∨ ¬ G0 j = 0) → ax 6 [some (.ref 35), some (.ref 2), some (.int y), some (.int mask), some (.int c), some (.int (nI j + 1))] [] (SH, va_up (va_up A 38 F) 40 G, B) := fun q => by
      rw [nI_1]
      exact hlp (j + 1, c, F, G) (gI_skip hI hjk q) (by show k - (j + 1) < k - j; omega)
    refine ⟨fun c1 => skip (Or.inl c1), fun c1 => ?_⟩
    refine ⟨hv, ?_⟩
    refine ⟨fun (c2 : G (nI j).toNatClampNeg = 0) => ?_, fun (c2 : ¬ G (nI j).toNatClampNeg = 0) => skip (Or.inr (by rw [e8, h2.2] at c2; exact c2))⟩
    refine ⟨hv, ?_⟩
    refine hcl _ _ _ _ (w_strideOf35 j (by omega) (hl j hjk).1 (hl j hjk).2 (fun _ => ?_) (fun (c3 : ¬ G j = 0) => absurd (by rw [e8] at c2; exact c2) c3))
    have es : SD (A 2 1) (A 3) (A 36 j) (A 37 j) (A 39 j) y = s j := (hs j hjk).symm
    refine ⟨hv, ?_⟩
    refine ⟨hv, ?_⟩
    have ef : upd F (nI j).toNatClampNeg (F (nI j).toNatClampNeg + SD (A 2 1) (A 3) (A 36 j) (A 37 j) (A 39 j) y) (nI j).toNatClampNeg = F0 j + s j := by
      rw [ud_s, e8, es, h2.1]
    have c2' : G0 j = 0 := by rw [e8, h2.2] at c2; exact c2
    refine ⟨fun c3 => ?_, fun c3 => ?_⟩
    · have c3 : upd F (nI j).toNatClampNeg (F (nI j).toNatClampNeg + SD (A 2 1) (A 3) (A 36 j) (A 37 j) (A 39 j) y) (nI j).toNatClampNeg < A 2 0 := c3
      rw [ef] at c3
      have this : ax 6 [some (.ref 35), some (.ref 2), some (.int y), some (.int mask), some (.int c), some (.int (nI j + 1))] [] (SH, va_up (va_up A 38 (upd F (nI j).toNatClampNeg (F (nI j).toNatClampNeg + SD (A 2 1) (A 3) (A 36 j) (A 37 j) (A 39 j) y))) 40 G, B) := by
        rw [nI_1]
        refine hlp (j + 1, c, _, G) (gI_go hI hjk c1 (fun i hi => ⟨ud_n (by rw [e8]; exact hi), rfl⟩) ?_ ?_) (by show k - (j + 1) < k - j; omega)
        · unfold st1
          rw [if_pos c2', if_pos c3]
          refine Prod.ext ?_ (h2.2.trans c2')
          show upd F (nI j).toNatClampNeg _ j = F0 j + s j
          rw [← ef, e8]
        · unfold Lc
          rw [if_pos c2', if_pos c3]
          grind
      rw [← up_sw (F := F) (by decide)] at this
      exact this
    · have c3 : ¬ upd F (nI j).toNatClampNeg (F (nI j).toNatClampNeg + SD (A 2 1) (A 3) (A 36 j) (A 37 j) (A 39 j) y) (nI j).toNatClampNeg < A 2 0 := c3
      rw [ef] at c3
      refine ⟨hv, ?_⟩
      refine ⟨hv, ?_⟩
      have this : ax 6 [some (.ref 35), some (.ref 2), some (.int y), some (.int mask), some (.int (c + 1)), some (.int (nI j + 1))] [] (SH, va_up (va_up A 38 (upd (upd F (nI j).toNatClampNeg (F (nI j).toNatClampNeg + SD (A 2 1) (A 3) (A 36 j) (A 37 j) (A 39 j) y)) (nI j).toNatClampNeg (A 2 0))) 40 (upd G (nI j).toNatClampNeg 1), B) := by
        rw [nI_1]
        refine hlp (j + 1, c + 1, _, _) (gI_go hI hjk c1 (fun i hi => ⟨?_, ud_n (by rw [e8]; exact hi)⟩) ?_ ?_) (by show k - (j + 1) < k - j; omega)
        · show upd (upd F _ _) _ _ i = F i
          rw [e8, ud_n hi, ud_n hi]
        · unfold st1
          rw [if_pos c2', if_neg c3]
          refine Prod.ext ?_ ?_
          · show upd (upd F _ _) _ _ j = A 2 0
            rw [e8, ud_s]
          · show upd G _ 1 j = 1
            rw [e8, ud_s]
        · unfold Lc
          rw [if_pos c2', if_neg c3]
      rw [← up5 F G (upd F (nI j).toNatClampNeg (F (nI j).toNatClampNeg + SD (A 2 1) (A 3) (A 36 j) (A 37 j) (A 39 j) y)) (show 38 ≠ 40 by decide)] at this
      exact this
theorem w_goYear35 {E : ME} {d : Nat} {A : Nat → Nat → Int32} {B : Nat → Nat → Int64} {K : MK} {k : Nat} {y mask : Int32} (hk : k ≤ 12) (hx : A 35 0 = nI k) (hl : ∀ i, i < k → 0 ≤ A 37 i ∧ A 37 i ≤ 8) (s : Nat → Int32) (hs : ∀ i, i < k → s i = SD (A 2 1) (A 3) (A 36 i) (A 37 i) (A 39 i) y) (hK : ∀ F G, (∀ i, i < k → ¬ (mask >>> (nI i &&& 31)) &&& 1 = 0 → (F i, G i) = st1 (A 2 0) (s i) (A 38 i, A 40 i)) → K (some (.int (su (Lx mask (A 2 0) s (A 38) (A 40)) k))) (SH, va_up (va_up A 38 F) 40 G, B)) : mCall E (d + 4) nX1_goYear [.ref 35, .ref 2, .int y, .int mask] (SH, A, B) K := by
  refine mCall_sem MX1_goYear rfl rfl (Or.inl ⟨rfl, rfl, rfl⟩) rfl (mSem_wp MX1_goYear rfl aX1_goYear 300 [6] (fun cl ax hcl hax => ?_))
  have e : va_up (va_up A 38 (A 38)) 40 (A 40) = A := by
    funext q
    unfold va_up
    split
    · rename_i c; rw [c]
    · split
      · rename_i c; rw [c]
      · rfl
  have this := lp_goYear35 (E := E) (d := d) (B := B) (K := K) (mask := mask) (s := s) (F0 := A 38) (G0 := A 40) hk hx hl hs (fun F G q => hK F G q.2.2.1) A (0, 0, A 38, A 40) ⟨by omega, fun i _ => ⟨rfl, rfl⟩, fun i hi => absurd hi (by simp), rfl⟩
  rw [e] at this
  exact hax _ _ _ _ this
