/-! rows copied -/
theorem lp_copy75_77 {E : ME} {d : Nat} {A A0 : Nat → Nat → Int32} {B : Nat → Nat → Int64} {K : MK} (hK : ∀ R, (∀ q, q < 135 → R q = A 75 q) → K none (SH, va_up A 77 R, B)) : ∀ v : Nat × (Nat → Int32), (v.1 ≤ 135 ∧ ∀ q, q < v.1 → v.2 q = A 75 q) → mSem E d nX9_copyRow (SH, A0, B) 0 0 K 2 [some (.ref 75), some (.ref 77), some (.int (nI v.1))] [] (SH, va_up A 77 v.2, B) := by
  refine mSem_loop (σ := Nat × (Nat → Int32)) (h0 := (SH, A0, B)) MX9_copyRow rfl aX9_copyRow 300 [2] (fun v => [some (.ref 75), some (.ref 77), some (.int (nI v.1))]) (fun v => (SH, va_up A 77 v.2, B)) (fun v => v.1 ≤ 135 ∧ ∀ q, q < v.1 → v.2 q = A 75 q) (fun v => 135 - v.1) ?_
  rintro ⟨j, R⟩ ⟨hj, hR⟩ cl ax hcl hax hlp
  have hj : j ≤ 135 := hj
  have hR : ∀ q, q < j → R q = A 75 q := hR
  have e8 : (nI j).toNatClampNeg = j := nI_clamp (by omega)
  refine ⟨fun (c0 : nI 135 ≤ nI j) => ?_, fun (c0 : ¬ nI 135 ≤ nI j) => ?_⟩
  · rw [nI_leI (by omega) (by omega)] at c0
    have : j = 135 := by omega
    subst this
    exact hK R hR
  · rw [nI_leI (by omega) (by omega)] at c0
    have hv : vp_in (nI j) 135 := vp_in_nI (N := 135) (by omega) (by decide)
    refine ⟨hv, ?_⟩
    refine ⟨hv, ?_⟩
    have this : ax 2 [some (.ref 75), some (.ref 77), some (.int (nI j + 1))] [] (SH, va_up A 77 (upd R (nI j).toNatClampNeg (A 75 (nI j).toNatClampNeg)), B) := by
      rw [nI_1]
      refine hlp (j + 1, _) ⟨by show j + 1 ≤ 135; omega, fun q hq => ?_⟩ (by show 135 - (j + 1) < 135 - j; omega)
      have hq : q < j + 1 := hq
      show upd R _ _ q = A 75 q
      rw [e8]
      by_cases e : q = j
      · subst e; rw [ud_s]
      · rw [ud_n e]; exact hR q (by omega)
    rw [← up_up (F := R)] at this
    exact this
theorem w_copy75_77 {E : ME} {d : Nat} {A : Nat → Nat → Int32} {B : Nat → Nat → Int64} {K : MK} (hK : ∀ R, (∀ q, q < 135 → R q = A 75 q) → K none (SH, va_up A 77 R, B)) : mCall E d nX9_copyRow [.ref 75, .ref 77] (SH, A, B) K := by
  refine mCall_sem MX9_copyRow rfl rfl (Or.inl ⟨rfl, rfl, rfl⟩) rfl (mSem_wp MX9_copyRow rfl aX9_copyRow 300 [2] (fun cl ax hcl hax => ?_))
  have e : va_up A 77 (A 77) = A := by
    funext q
    unfold va_up
    split
    · rename_i c; rw [c]
    · rfl
  have this := lp_copy75_77 (E := E) (d := d) (A := A) (A0 := A) (B := B) (K := K) hK (0, A 77) ⟨by omega, fun q hq => absurd hq (by simp)⟩
  rw [e] at this
  exact hax _ _ _ _ this
theorem lp_copy77_75 {E : ME} {d : Nat} {A A0 : Nat → Nat → Int32} {B : Nat → Nat → Int64} {K : MK} (hK : ∀ R, (∀ q, q < 135 → R q = A 77 q) → K none (SH, va_up A 75 R, B)) : ∀ v : Nat × (Nat → Int32), (v.1 ≤ 135 ∧ ∀ q, q < v.1 → v.2 q = A 77 q) → mSem E d nX9_copyRow (SH, A0, B) 0 0 K 2 [some (.ref 77), some (.ref 75), some (.int (nI v.1))] [] (SH, va_up A 75 v.2, B) := by
  refine mSem_loop (σ := Nat × (Nat → Int32)) (h0 := (SH, A0, B)) MX9_copyRow rfl aX9_copyRow 300 [2] (fun v => [some (.ref 77), some (.ref 75), some (.int (nI v.1))]) (fun v => (SH, va_up A 75 v.2, B)) (fun v => v.1 ≤ 135 ∧ ∀ q, q < v.1 → v.2 q = A 77 q) (fun v => 135 - v.1) ?_
  rintro ⟨j, R⟩ ⟨hj, hR⟩ cl ax hcl hax hlp
  have hj : j ≤ 135 := hj
  have hR : ∀ q, q < j → R q = A 77 q := hR
  have e8 : (nI j).toNatClampNeg = j := nI_clamp (by omega)
  refine ⟨fun (c0 : nI 135 ≤ nI j) => ?_, fun (c0 : ¬ nI 135 ≤ nI j) => ?_⟩
  · rw [nI_leI (by omega) (by omega)] at c0
    have : j = 135 := by omega
    subst this
    exact hK R hR
  · rw [nI_leI (by omega) (by omega)] at c0
    have hv : vp_in (nI j) 135 := vp_in_nI (N := 135) (by omega) (by decide)
    refine ⟨hv, ?_⟩
    refine ⟨hv, ?_⟩
    have this : ax 2 [some (.ref 77), some (.ref 75), some (.int (nI j + 1))] [] (SH, va_up A 75 (upd R (nI j).toNatClampNeg (A 77 (nI j).toNatClampNeg)), B) := by
      rw [nI_1]
      refine hlp (j + 1, _) ⟨by show j + 1 ≤ 135; omega, fun q hq => ?_⟩ (by show 135 - (j + 1) < 135 - j; omega)
      have hq : q < j + 1 := hq
      show upd R _ _ q = A 77 q
      rw [e8]
      by_cases e : q = j
      · subst e; rw [ud_s]
      · rw [ud_n e]; exact hR q (by omega)
    rw [← up_up (F := R)] at this
    exact this
theorem w_copy77_75 {E : ME} {d : Nat} {A : Nat → Nat → Int32} {B : Nat → Nat → Int64} {K : MK} (hK : ∀ R, (∀ q, q < 135 → R q = A 77 q) → K none (SH, va_up A 75 R, B)) : mCall E d nX9_copyRow [.ref 77, .ref 75] (SH, A, B) K := by
  refine mCall_sem MX9_copyRow rfl rfl (Or.inl ⟨rfl, rfl, rfl⟩) rfl (mSem_wp MX9_copyRow rfl aX9_copyRow 300 [2] (fun cl ax hcl hax => ?_))
  have e : va_up A 75 (A 75) = A := by
    funext q
    unfold va_up
    split
    · rename_i c; rw [c]
    · rfl
  have this := lp_copy77_75 (E := E) (d := d) (A := A) (A0 := A) (B := B) (K := K) hK (0, A 75) ⟨by omega, fun q hq => absurd hq (by simp)⟩
  rw [e] at this
  exact hax _ _ _ _ this
theorem lp_copy76_75 {E : ME} {d : Nat} {A A0 : Nat → Nat → Int32} {B : Nat → Nat → Int64} {K : MK} (hK : ∀ R, (∀ q, q < 135 → R q = A 76 q) → K none (SH, va_up A 75 R, B)) : ∀ v : Nat × (Nat → Int32), (v.1 ≤ 135 ∧ ∀ q, q < v.1 → v.2 q = A 76 q) → mSem E d nX9_copyRow (SH, A0, B) 0 0 K 2 [some (.ref 76), some (.ref 75), some (.int (nI v.1))] [] (SH, va_up A 75 v.2, B) := by
  refine mSem_loop (σ := Nat × (Nat → Int32)) (h0 := (SH, A0, B)) MX9_copyRow rfl aX9_copyRow 300 [2] (fun v => [some (.ref 76), some (.ref 75), some (.int (nI v.1))]) (fun v => (SH, va_up A 75 v.2, B)) (fun v => v.1 ≤ 135 ∧ ∀ q, q < v.1 → v.2 q = A 76 q) (fun v => 135 - v.1) ?_
  rintro ⟨j, R⟩ ⟨hj, hR⟩ cl ax hcl hax hlp
  have hj : j ≤ 135 := hj
  have hR : ∀ q, q < j → R q = A 76 q := hR
  have e8 : (nI j).toNatClampNeg = j := nI_clamp (by omega)
  refine ⟨fun (c0 : nI 135 ≤ nI j) => ?_, fun (c0 : ¬ nI 135 ≤ nI j) => ?_⟩
  · rw [nI_leI (by omega) (by omega)] at c0
    have : j = 135 := by omega
    subst this
    exact hK R hR
  · rw [nI_leI (by omega) (by omega)] at c0
    have hv : vp_in (nI j) 135 := vp_in_nI (N := 135) (by omega) (by decide)
    refine ⟨hv, ?_⟩
    refine ⟨hv, ?_⟩
    have this : ax 2 [some (.ref 76), some (.ref 75), some (.int (nI j + 1))] [] (SH, va_up A 75 (upd R (nI j).toNatClampNeg (A 76 (nI j).toNatClampNeg)), B) := by
      rw [nI_1]
      refine hlp (j + 1, _) ⟨by show j + 1 ≤ 135; omega, fun q hq => ?_⟩ (by show 135 - (j + 1) < 135 - j; omega)
      have hq : q < j + 1 := hq
      show upd R _ _ q = A 76 q
      rw [e8]
      by_cases e : q = j
      · subst e; rw [ud_s]
      · rw [ud_n e]; exact hR q (by omega)
    rw [← up_up (F := R)] at this
    exact this
theorem w_copy76_75 {E : ME} {d : Nat} {A : Nat → Nat → Int32} {B : Nat → Nat → Int64} {K : MK} (hK : ∀ R, (∀ q, q < 135 → R q = A 76 q) → K none (SH, va_up A 75 R, B)) : mCall E d nX9_copyRow [.ref 76, .ref 75] (SH, A, B) K := by
  refine mCall_sem MX9_copyRow rfl rfl (Or.inl ⟨rfl, rfl, rfl⟩) rfl (mSem_wp MX9_copyRow rfl aX9_copyRow 300 [2] (fun cl ax hcl hax => ?_))
  have e : va_up A 75 (A 75) = A := by
    funext q
    unfold va_up
    split
    · rename_i c; rw [c]
    · rfl
  have this := lp_copy76_75 (E := E) (d := d) (A := A) (A0 := A) (B := B) (K := K) hK (0, A 75) ⟨by omega, fun q hq => absurd hq (by simp)⟩
  rw [e] at this
  exact hax _ _ _ _ this
theorem lp_copy75_76 {E : ME} {d : Nat} {A A0 : Nat → Nat → Int32} {B : Nat → Nat → Int64} {K : MK} (hK : ∀ R, (∀ q, q < 135 → R q = A 75 q) → K none (SH, va_up A 76 R, B)) : ∀ v : Nat × (Nat → Int32), (v.1 ≤ 135 ∧ ∀ q, q < v.1 → v.2 q = A 75 q) → mSem E d nX9_copyRow (SH, A0, B) 0 0 K 2 [some (.ref 75), some (.ref 76), some (.int (nI v.1))] [] (SH, va_up A 76 v.2, B) := by
  refine mSem_loop (σ := Nat × (Nat → Int32)) (h0 := (SH, A0, B)) MX9_copyRow rfl aX9_copyRow 300 [2] (fun v => [some (.ref 75), some (.ref 76), some (.int (nI v.1))]) (fun v => (SH, va_up A 76 v.2, B)) (fun v => v.1 ≤ 135 ∧ ∀ q, q < v.1 → v.2 q = A 75 q) (fun v => 135 - v.1) ?_
  rintro ⟨j, R⟩ ⟨hj, hR⟩ cl ax hcl hax hlp
  have hj : j ≤ 135 := hj
  have hR : ∀ q, q < j → R q = A 75 q := hR
  have e8 : (nI j).toNatClampNeg = j := nI_clamp (by omega)
  refine ⟨fun (c0 : nI 135 ≤ nI j) => ?_, fun (c0 : ¬ nI 135 ≤ nI j) => ?_⟩
  · rw [nI_leI (by omega) (by omega)] at c0
    have : j = 135 := by omega
    subst this
    exact hK R hR
  · rw [nI_leI (by omega) (by omega)] at c0
    have hv : vp_in (nI j) 135 := vp_in_nI (N := 135) (by omega) (by decide)
    refine ⟨hv, ?_⟩
    refine ⟨hv, ?_⟩
    have this : ax 2 [some (.ref 75), some (.ref 76), some (.int (nI j + 1))] [] (SH, va_up A 76 (upd R (nI j).toNatClampNeg (A 75 (nI j).toNatClampNeg)), B) := by
      rw [nI_1]
      refine hlp (j + 1, _) ⟨by show j + 1 ≤ 135; omega, fun q hq => ?_⟩ (by show 135 - (j + 1) < 135 - j; omega)
      have hq : q < j + 1 := hq
      show upd R _ _ q = A 75 q
      rw [e8]
      by_cases e : q = j
      · subst e; rw [ud_s]
      · rw [ud_n e]; exact hR q (by omega)
    rw [← up_up (F := R)] at this
    exact this
theorem w_copy75_76 {E : ME} {d : Nat} {A : Nat → Nat → Int32} {B : Nat → Nat → Int64} {K : MK} (hK : ∀ R, (∀ q, q < 135 → R q = A 75 q) → K none (SH, va_up A 76 R, B)) : mCall E d nX9_copyRow [.ref 75, .ref 76] (SH, A, B) K := by
  refine mCall_sem MX9_copyRow rfl rfl (Or.inl ⟨rfl, rfl, rfl⟩) rfl (mSem_wp MX9_copyRow rfl aX9_copyRow 300 [2] (fun cl ax hcl hax => ?_))
  have e : va_up A 76 (A 76) = A := by
    funext q
    unfold va_up
    split
    · rename_i c; rw [c]
    · rfl
  have this := lp_copy75_76 (E := E) (d := d) (A := A) (A0 := A) (B := B) (K := K) hK (0, A 76) ⟨by omega, fun q hq => absurd hq (by simp)⟩
  rw [e] at this
  exact hax _ _ _ _ this
theorem w_putBack {E : ME} {d : Nat} {x : Int32} {A : Nat → Nat → Int32} {B : Nat → Nat → Int64} {K : MK} (hK : ∀ R, (∀ q, q < 135 → R q = A 77 q) → K (some (.int x)) (SH, va_up A 75 R, B)) : mCall E (d + 1) nX9_putBack [.ref 74, .int x] (SH, A, B) K := by
  refine mCall_sem MX9_putBack rfl rfl (Or.inl ⟨rfl, rfl, rfl⟩) rfl (mSem_wp MX9_putBack rfl aX9_putBack 300 [] (fun cl ax hcl hax => ?_))
  refine hcl _ _ _ _ (w_copy77_75 (fun R hR => ?_))
  exact hK R hR
theorem up_n5 {α : Type} {A : Nat → α} {a b c d e : Nat} (x1 x2 x3 x4 x5 : α) {y1 y2 y3 y4 y5 : α} (hab : a ≠ b) (hac : a ≠ c) (had : a ≠ d) (hae : a ≠ e) (hbc : b ≠ c) (hbd : b ≠ d) (hbe : b ≠ e) (hcd : c ≠ d) (hce : c ≠ e) (hde : d ≠ e) : va_up (va_up (va_up (va_up (va_up (va_up (va_up (va_up (va_up (va_up A a x1) b x2) c x3) d x4) e x5) a y1) b y2) c y3) d y4) e y5 = va_up (va_up (va_up (va_up (va_up A a y1) b y2) c y3) d y4) e y5 := by
  funext q
  unfold va_up
  by_cases h1 : q = e
  · simp [h1]
  by_cases h2 : q = d
  · simp [h2, hde]
  by_cases h3 : q = c
  · simp [h3, hcd, hce]
  by_cases h4 : q = b
  · simp [h4, hbc, hbd, hbe]
  by_cases h5 : q = a
  · simp [h5, hab, hac, had, hae]
  simp [h1, h2, h3, h4, h5]
def nb5 (A : Nat → Nat → Int32) (a b c d g : Nat) (v : (Nat → Int32) × (Nat → Int32) × (Nat → Int32) × (Nat → Int32) × (Nat → Int32)) : Nat → Nat → Int32 := va_up (va_up (va_up (va_up (va_up A a v.1) b v.2.1) c v.2.2.1) d v.2.2.2.1) g v.2.2.2.2
def same5 (j : Nat) (A : Nat → Nat → Int32) (a b c d g : Nat) (v : (Nat → Int32) × (Nat → Int32) × (Nat → Int32) × (Nat → Int32) × (Nat → Int32)) : Prop := ∀ q, q < j → v.1 q = A a q ∧ v.2.1 q = A b q ∧ v.2.2.1 q = A c q ∧ v.2.2.2.1 q = A d q ∧ v.2.2.2.2 q = A g q
theorem same5_go {j : Nat} {A : Nat → Nat → Int32} {a b c d g : Nat} {f1 f2 f3 f4 f5 : Nat → Int32} {n : Int32} (h : same5 j A a b c d g (f1, f2, f3, f4, f5)) (hj : j < 2 ^ 31) (hn : n = A g j) : same5 (j + 1) A a b c d g (upd f1 (nI j).toNatClampNeg (A a (nI j).toNatClampNeg), upd f2 (nI j).toNatClampNeg (A b (nI j).toNatClampNeg), upd f3 (nI j).toNatClampNeg (A c (nI j).toNatClampNeg), upd f4 (nI j).toNatClampNeg (A d (nI j).toNatClampNeg), upd f5 (nI j).toNatClampNeg n) := by
  intro q hq
  simp only [nI_clamp hj]
  by_cases e : q = j
  · subst e
    simp only [ud_s]
    exact ⟨trivial, trivial, trivial, trivial, hn⟩
  · simp only [ud_n e]
    exact h q (by omega)
theorem lp_take35_4 {E : ME} {d : Nat} {A A0 : Nat → Nat → Int32} {B : Nat → Nat → Int64} {K : MK} {k : Nat} (hk : k ≤ 12) (hx : A 35 0 = nI k) (hg : ∀ j, j < k → A 9 j = 0 ∨ A 9 j = 1) (hK : ∀ v, same5 k A 5 6 7 8 9 v → K none (SH, nb5 A 36 37 38 39 40 v, B)) : ∀ t : Nat × (Nat → Int32) × (Nat → Int32) × (Nat → Int32) × (Nat → Int32) × (Nat → Int32), (t.1 ≤ k ∧ same5 t.1 A 5 6 7 8 9 t.2) → mSem E d nX1_takeFrom (SH, A0, B) 0 0 K 10 [some (.ref 35), some (.ref 4), some (.int (nI t.1))] [] (SH, nb5 A 36 37 38 39 40 t.2, B) := by
  refine mSem_loop (σ := Nat × (Nat → Int32) × (Nat → Int32) × (Nat → Int32) × (Nat → Int32) × (Nat → Int32)) (h0 := (SH, A0, B)) MX1_takeFrom rfl aX1_takeFrom 300 [10] (fun t => [some (.ref 35), some (.ref 4), some (.int (nI t.1))]) (fun t => (SH, nb5 A 36 37 38 39 40 t.2, B)) (fun t => t.1 ≤ k ∧ same5 t.1 A 5 6 7 8 9 t.2) (fun t => k - t.1) ?_
  rintro ⟨j, f1, f2, f3, f4, f5⟩ ⟨hj, hR⟩ cl ax hcl hax hlp
  have hj : j ≤ k := hj
  have e8 : (nI j).toNatClampNeg = j := nI_clamp (by omega)
  refine ⟨fun (c0 : A 35 0 ≤ nI j) => ?_, fun (c0 : ¬ A 35 0 ≤ nI j) => ?_⟩
  · rw [hx, nI_leI (by omega) (by omega)] at c0
    have : j = k := by omega
    subst this
    exact hK _ hR
  · rw [hx, nI_leI (by omega) (by omega)] at c0
    have hv : vp_in (nI j) 12 := vp_in_nI (by omega) (by decide)
    have en : vp_nar .boolean (A 9 (nI j).toNatClampNeg) = A 9 j := by
      rw [e8]
      rcases hg j (by omega) with q | q <;> (rw [q]; decide)
    have this : ax 10 [some (.ref 35), some (.ref 4), some (.int (nI j + 1))] [] (SH, nb5 A 36 37 38 39 40 (upd f1 (nI j).toNatClampNeg (A 5 (nI j).toNatClampNeg), upd f2 (nI j).toNatClampNeg (A 6 (nI j).toNatClampNeg), upd f3 (nI j).toNatClampNeg (A 7 (nI j).toNatClampNeg), upd f4 (nI j).toNatClampNeg (A 8 (nI j).toNatClampNeg), upd f5 (nI j).toNatClampNeg (vp_nar .boolean (A 9 (nI j).toNatClampNeg))), B) := by
      rw [nI_1]
      exact hlp (j + 1, _, _, _, _, _) ⟨by show j + 1 ≤ k; omega, same5_go hR (by omega) en⟩ (by show k - (j + 1) < k - j; omega)
    unfold nb5 at this
    rw [← up_n5 f1 f2 f3 f4 f5 (by decide) (by decide) (by decide) (by decide) (by decide) (by decide) (by decide) (by decide) (by decide) (by decide)] at this
    refine ⟨hv, ?_⟩
    refine ⟨hv, ?_⟩
    refine ⟨hv, ?_⟩
    refine ⟨hv, ?_⟩
    refine ⟨hv, ?_⟩
    refine ⟨hv, ?_⟩
    refine ⟨hv, ?_⟩
    refine ⟨hv, ?_⟩
    refine ⟨hv, ?_⟩
    refine ⟨hv, ?_⟩
    exact this
theorem w_take35_4 {E : ME} {d : Nat} {A : Nat → Nat → Int32} {B : Nat → Nat → Int64} {K : MK} {k : Nat} (hk : k ≤ 12) (hx : A 4 0 = nI k) (hg : ∀ j, j < k → A 9 j = 0 ∨ A 9 j = 1) (hK : ∀ v, same5 k A 5 6 7 8 9 v → K none (SH, nb5 (va_up A 35 (upd (A 35) 0 (A 4 0))) 36 37 38 39 40 v, B)) : mCall E d nX1_takeFrom [.ref 35, .ref 4] (SH, A, B) K := by
  refine mCall_sem MX1_takeFrom rfl rfl (Or.inl ⟨rfl, rfl, rfl⟩) rfl (mSem_wp MX1_takeFrom rfl aX1_takeFrom 300 [10] (fun cl ax hcl hax => ?_))
  have e : nb5 (va_up A 35 (upd (A 35) 0 (A 4 0))) 36 37 38 39 40 (A 36, A 37, A 38, A 39, A 40) = va_up A 35 (upd (A 35) 0 (A 4 0)) := by
    funext q
    unfold nb5 va_up
    split
    · rename_i c; rw [c]; rfl
    split
    · rename_i c; rw [c]; rfl
    split
    · rename_i c; rw [c]; rfl
    split
    · rename_i c; rw [c]; rfl
    split
    · rename_i c; rw [c]; rfl
    rfl
  have this := lp_take35_4 (E := E) (d := d) (A := va_up A 35 (upd (A 35) 0 (A 4 0))) (A0 := A) (B := B) (K := K) hk hx hg hK (0, A 36, A 37, A 38, A 39, A 40) ⟨by omega, fun q hq => absurd hq (by simp)⟩
  rw [show (0, A 36, A 37, A 38, A 39, A 40).2 = (A 36, A 37, A 38, A 39, A 40) from rfl, e] at this
  exact hax _ _ _ _ this
theorem lp_take4_21 {E : ME} {d : Nat} {A A0 : Nat → Nat → Int32} {B : Nat → Nat → Int64} {K : MK} {k : Nat} (hk : k ≤ 12) (hx : A 4 0 = nI k) (hg : ∀ j, j < k → A 26 j = 0 ∨ A 26 j = 1) (hK : ∀ v, same5 k A 22 23 24 25 26 v → K none (SH, nb5 A 5 6 7 8 9 v, B)) : ∀ t : Nat × (Nat → Int32) × (Nat → Int32) × (Nat → Int32) × (Nat → Int32) × (Nat → Int32), (t.1 ≤ k ∧ same5 t.1 A 22 23 24 25 26 t.2) → mSem E d nX1_takeFrom (SH, A0, B) 0 0 K 10 [some (.ref 4), some (.ref 21), some (.int (nI t.1))] [] (SH, nb5 A 5 6 7 8 9 t.2, B) := by
  refine mSem_loop (σ := Nat × (Nat → Int32) × (Nat → Int32) × (Nat → Int32) × (Nat → Int32) × (Nat → Int32)) (h0 := (SH, A0, B)) MX1_takeFrom rfl aX1_takeFrom 300 [10] (fun t => [some (.ref 4), some (.ref 21), some (.int (nI t.1))]) (fun t => (SH, nb5 A 5 6 7 8 9 t.2, B)) (fun t => t.1 ≤ k ∧ same5 t.1 A 22 23 24 25 26 t.2) (fun t => k - t.1) ?_
  rintro ⟨j, f1, f2, f3, f4, f5⟩ ⟨hj, hR⟩ cl ax hcl hax hlp
  have hj : j ≤ k := hj
  have e8 : (nI j).toNatClampNeg = j := nI_clamp (by omega)
  refine ⟨fun (c0 : A 4 0 ≤ nI j) => ?_, fun (c0 : ¬ A 4 0 ≤ nI j) => ?_⟩
  · rw [hx, nI_leI (by omega) (by omega)] at c0
    have : j = k := by omega
    subst this
    exact hK _ hR
  · rw [hx, nI_leI (by omega) (by omega)] at c0
    have hv : vp_in (nI j) 12 := vp_in_nI (by omega) (by decide)
    have en : vp_nar .boolean (A 26 (nI j).toNatClampNeg) = A 26 j := by
      rw [e8]
      rcases hg j (by omega) with q | q <;> (rw [q]; decide)
    have this : ax 10 [some (.ref 4), some (.ref 21), some (.int (nI j + 1))] [] (SH, nb5 A 5 6 7 8 9 (upd f1 (nI j).toNatClampNeg (A 22 (nI j).toNatClampNeg), upd f2 (nI j).toNatClampNeg (A 23 (nI j).toNatClampNeg), upd f3 (nI j).toNatClampNeg (A 24 (nI j).toNatClampNeg), upd f4 (nI j).toNatClampNeg (A 25 (nI j).toNatClampNeg), upd f5 (nI j).toNatClampNeg (vp_nar .boolean (A 26 (nI j).toNatClampNeg))), B) := by
      rw [nI_1]
      exact hlp (j + 1, _, _, _, _, _) ⟨by show j + 1 ≤ k; omega, same5_go hR (by omega) en⟩ (by show k - (j + 1) < k - j; omega)
    unfold nb5 at this
    rw [← up_n5 f1 f2 f3 f4 f5 (by decide) (by decide) (by decide) (by decide) (by decide) (by decide) (by decide) (by decide) (by decide) (by decide)] at this
    refine ⟨hv, ?_⟩
    refine ⟨hv, ?_⟩
    refine ⟨hv, ?_⟩
    refine ⟨hv, ?_⟩
    refine ⟨hv, ?_⟩
    refine ⟨hv, ?_⟩
    refine ⟨hv, ?_⟩
    refine ⟨hv, ?_⟩
    refine ⟨hv, ?_⟩
    refine ⟨hv, ?_⟩
    exact this
theorem w_take4_21 {E : ME} {d : Nat} {A : Nat → Nat → Int32} {B : Nat → Nat → Int64} {K : MK} {k : Nat} (hk : k ≤ 12) (hx : A 21 0 = nI k) (hg : ∀ j, j < k → A 26 j = 0 ∨ A 26 j = 1) (hK : ∀ v, same5 k A 22 23 24 25 26 v → K none (SH, nb5 (va_up A 4 (upd (A 4) 0 (A 21 0))) 5 6 7 8 9 v, B)) : mCall E d nX1_takeFrom [.ref 4, .ref 21] (SH, A, B) K := by
  refine mCall_sem MX1_takeFrom rfl rfl (Or.inl ⟨rfl, rfl, rfl⟩) rfl (mSem_wp MX1_takeFrom rfl aX1_takeFrom 300 [10] (fun cl ax hcl hax => ?_))
  have e : nb5 (va_up A 4 (upd (A 4) 0 (A 21 0))) 5 6 7 8 9 (A 5, A 6, A 7, A 8, A 9) = va_up A 4 (upd (A 4) 0 (A 21 0)) := by
    funext q
    unfold nb5 va_up
    split
    · rename_i c; rw [c]; rfl
    split
    · rename_i c; rw [c]; rfl
    split
    · rename_i c; rw [c]; rfl
    split
    · rename_i c; rw [c]; rfl
    split
    · rename_i c; rw [c]; rfl
    rfl
  have this := lp_take4_21 (E := E) (d := d) (A := va_up A 4 (upd (A 4) 0 (A 21 0))) (A0 := A) (B := B) (K := K) hk hx hg hK (0, A 5, A 6, A 7, A 8, A 9) ⟨by omega, fun q hq => absurd hq (by simp)⟩
  rw [show (0, A 5, A 6, A 7, A 8, A 9).2 = (A 5, A 6, A 7, A 8, A 9) from rfl, e] at this
  exact hax _ _ _ _ this
theorem lp_take21_4 {E : ME} {d : Nat} {A A0 : Nat → Nat → Int32} {B : Nat → Nat → Int64} {K : MK} {k : Nat} (hk : k ≤ 12) (hx : A 21 0 = nI k) (hg : ∀ j, j < k → A 9 j = 0 ∨ A 9 j = 1) (hK : ∀ v, same5 k A 5 6 7 8 9 v → K none (SH, nb5 A 22 23 24 25 26 v, B)) : ∀ t : Nat × (Nat → Int32) × (Nat → Int32) × (Nat → Int32) × (Nat → Int32) × (Nat → Int32), (t.1 ≤ k ∧ same5 t.1 A 5 6 7 8 9 t.2) → mSem E d nX1_takeFrom (SH, A0, B) 0 0 K 10 [some (.ref 21), some (.ref 4), some (.int (nI t.1))] [] (SH, nb5 A 22 23 24 25 26 t.2, B) := by
  refine mSem_loop (σ := Nat × (Nat → Int32) × (Nat → Int32) × (Nat → Int32) × (Nat → Int32) × (Nat → Int32)) (h0 := (SH, A0, B)) MX1_takeFrom rfl aX1_takeFrom 300 [10] (fun t => [some (.ref 21), some (.ref 4), some (.int (nI t.1))]) (fun t => (SH, nb5 A 22 23 24 25 26 t.2, B)) (fun t => t.1 ≤ k ∧ same5 t.1 A 5 6 7 8 9 t.2) (fun t => k - t.1) ?_
  rintro ⟨j, f1, f2, f3, f4, f5⟩ ⟨hj, hR⟩ cl ax hcl hax hlp
  have hj : j ≤ k := hj
  have e8 : (nI j).toNatClampNeg = j := nI_clamp (by omega)
  refine ⟨fun (c0 : A 21 0 ≤ nI j) => ?_, fun (c0 : ¬ A 21 0 ≤ nI j) => ?_⟩
  · rw [hx, nI_leI (by omega) (by omega)] at c0
    have : j = k := by omega
    subst this
    exact hK _ hR
  · rw [hx, nI_leI (by omega) (by omega)] at c0
    have hv : vp_in (nI j) 12 := vp_in_nI (by omega) (by decide)
    have en : vp_nar .boolean (A 9 (nI j).toNatClampNeg) = A 9 j := by
      rw [e8]
      rcases hg j (by omega) with q | q <;> (rw [q]; decide)
    have this : ax 10 [some (.ref 21), some (.ref 4), some (.int (nI j + 1))] [] (SH, nb5 A 22 23 24 25 26 (upd f1 (nI j).toNatClampNeg (A 5 (nI j).toNatClampNeg), upd f2 (nI j).toNatClampNeg (A 6 (nI j).toNatClampNeg), upd f3 (nI j).toNatClampNeg (A 7 (nI j).toNatClampNeg), upd f4 (nI j).toNatClampNeg (A 8 (nI j).toNatClampNeg), upd f5 (nI j).toNatClampNeg (vp_nar .boolean (A 9 (nI j).toNatClampNeg))), B) := by
      rw [nI_1]
      exact hlp (j + 1, _, _, _, _, _) ⟨by show j + 1 ≤ k; omega, same5_go hR (by omega) en⟩ (by show k - (j + 1) < k - j; omega)
    unfold nb5 at this
    rw [← up_n5 f1 f2 f3 f4 f5 (by decide) (by decide) (by decide) (by decide) (by decide) (by decide) (by decide) (by decide) (by decide) (by decide)] at this
    refine ⟨hv, ?_⟩
    refine ⟨hv, ?_⟩
    refine ⟨hv, ?_⟩
    refine ⟨hv, ?_⟩
    refine ⟨hv, ?_⟩
    refine ⟨hv, ?_⟩
    refine ⟨hv, ?_⟩
    refine ⟨hv, ?_⟩
    refine ⟨hv, ?_⟩
    refine ⟨hv, ?_⟩
    exact this
theorem w_take21_4 {E : ME} {d : Nat} {A : Nat → Nat → Int32} {B : Nat → Nat → Int64} {K : MK} {k : Nat} (hk : k ≤ 12) (hx : A 4 0 = nI k) (hg : ∀ j, j < k → A 9 j = 0 ∨ A 9 j = 1) (hK : ∀ v, same5 k A 5 6 7 8 9 v → K none (SH, nb5 (va_up A 21 (upd (A 21) 0 (A 4 0))) 22 23 24 25 26 v, B)) : mCall E d nX1_takeFrom [.ref 21, .ref 4] (SH, A, B) K := by
  refine mCall_sem MX1_takeFrom rfl rfl (Or.inl ⟨rfl, rfl, rfl⟩) rfl (mSem_wp MX1_takeFrom rfl aX1_takeFrom 300 [10] (fun cl ax hcl hax => ?_))
  have e : nb5 (va_up A 21 (upd (A 21) 0 (A 4 0))) 22 23 24 25 26 (A 22, A 23, A 24, A 25, A 26) = va_up A 21 (upd (A 21) 0 (A 4 0)) := by
    funext q
    unfold nb5 va_up
    split
    · rename_i c; rw [c]; rfl
    split
    · rename_i c; rw [c]; rfl
    split
    · rename_i c; rw [c]; rfl
    split
    · rename_i c; rw [c]; rfl
    split
    · rename_i c; rw [c]; rfl
    rfl
  have this := lp_take21_4 (E := E) (d := d) (A := va_up A 21 (upd (A 21) 0 (A 4 0))) (A0 := A) (B := B) (K := K) hk hx hg hK (0, A 22, A 23, A 24, A 25, A 26) ⟨by omega, fun q hq => absurd hq (by simp)⟩
  rw [show (0, A 22, A 23, A 24, A 25, A 26).2 = (A 22, A 23, A 24, A 25, A 26) from rfl, e] at this
  exact hax _ _ _ _ this
theorem lp_take4_49 {E : ME} {d : Nat} {A A0 : Nat → Nat → Int32} {B : Nat → Nat → Int64} {K : MK} {k : Nat} (hk : k ≤ 12) (hx : A 4 0 = nI k) (hg : ∀ j, j < k → A 54 j = 0 ∨ A 54 j = 1) (hK : ∀ v, same5 k A 50 51 52 53 54 v → K none (SH, nb5 A 5 6 7 8 9 v, B)) : ∀ t : Nat × (Nat → Int32) × (Nat → Int32) × (Nat → Int32) × (Nat → Int32) × (Nat → Int32), (t.1 ≤ k ∧ same5 t.1 A 50 51 52 53 54 t.2) → mSem E d nX1_takeFrom (SH, A0, B) 0 0 K 10 [some (.ref 4), some (.ref 49), some (.int (nI t.1))] [] (SH, nb5 A 5 6 7 8 9 t.2, B) := by
  refine mSem_loop (σ := Nat × (Nat → Int32) × (Nat → Int32) × (Nat → Int32) × (Nat → Int32) × (Nat → Int32)) (h0 := (SH, A0, B)) MX1_takeFrom rfl aX1_takeFrom 300 [10] (fun t => [some (.ref 4), some (.ref 49), some (.int (nI t.1))]) (fun t => (SH, nb5 A 5 6 7 8 9 t.2, B)) (fun t => t.1 ≤ k ∧ same5 t.1 A 50 51 52 53 54 t.2) (fun t => k - t.1) ?_
  rintro ⟨j, f1, f2, f3, f4, f5⟩ ⟨hj, hR⟩ cl ax hcl hax hlp
  have hj : j ≤ k := hj
  have e8 : (nI j).toNatClampNeg = j := nI_clamp (by omega)
  refine ⟨fun (c0 : A 4 0 ≤ nI j) => ?_, fun (c0 : ¬ A 4 0 ≤ nI j) => ?_⟩
  · rw [hx, nI_leI (by omega) (by omega)] at c0
    have : j = k := by omega
    subst this
    exact hK _ hR
  · rw [hx, nI_leI (by omega) (by omega)] at c0
    have hv : vp_in (nI j) 12 := vp_in_nI (by omega) (by decide)
    have en : vp_nar .boolean (A 54 (nI j).toNatClampNeg) = A 54 j := by
      rw [e8]
      rcases hg j (by omega) with q | q <;> (rw [q]; decide)
    have this : ax 10 [some (.ref 4), some (.ref 49), some (.int (nI j + 1))] [] (SH, nb5 A 5 6 7 8 9 (upd f1 (nI j).toNatClampNeg (A 50 (nI j).toNatClampNeg), upd f2 (nI j).toNatClampNeg (A 51 (nI j).toNatClampNeg), upd f3 (nI j).toNatClampNeg (A 52 (nI j).toNatClampNeg), upd f4 (nI j).toNatClampNeg (A 53 (nI j).toNatClampNeg), upd f5 (nI j).toNatClampNeg (vp_nar .boolean (A 54 (nI j).toNatClampNeg))), B) := by
      rw [nI_1]
      exact hlp (j + 1, _, _, _, _, _) ⟨by show j + 1 ≤ k; omega, same5_go hR (by omega) en⟩ (by show k - (j + 1) < k - j; omega)
    unfold nb5 at this
    rw [← up_n5 f1 f2 f3 f4 f5 (by decide) (by decide) (by decide) (by decide) (by decide) (by decide) (by decide) (by decide) (by decide) (by decide)] at this
    refine ⟨hv, ?_⟩
    refine ⟨hv, ?_⟩
    refine ⟨hv, ?_⟩
    refine ⟨hv, ?_⟩
    refine ⟨hv, ?_⟩
    refine ⟨hv, ?_⟩
    refine ⟨hv, ?_⟩
    refine ⟨hv, ?_⟩
    refine ⟨hv, ?_⟩
    refine ⟨hv, ?_⟩
    exact this
theorem w_take4_49 {E : ME} {d : Nat} {A : Nat → Nat → Int32} {B : Nat → Nat → Int64} {K : MK} {k : Nat} (hk : k ≤ 12) (hx : A 49 0 = nI k) (hg : ∀ j, j < k → A 54 j = 0 ∨ A 54 j = 1) (hK : ∀ v, same5 k A 50 51 52 53 54 v → K none (SH, nb5 (va_up A 4 (upd (A 4) 0 (A 49 0))) 5 6 7 8 9 v, B)) : mCall E d nX1_takeFrom [.ref 4, .ref 49] (SH, A, B) K := by
  refine mCall_sem MX1_takeFrom rfl rfl (Or.inl ⟨rfl, rfl, rfl⟩) rfl (mSem_wp MX1_takeFrom rfl aX1_takeFrom 300 [10] (fun cl ax hcl hax => ?_))
  have e : nb5 (va_up A 4 (upd (A 4) 0 (A 49 0))) 5 6 7 8 9 (A 5, A 6, A 7, A 8, A 9) = va_up A 4 (upd (A 4) 0 (A 49 0)) := by
    funext q
    unfold nb5 va_up
    split
    · rename_i c; rw [c]; rfl
    split
    · rename_i c; rw [c]; rfl
    split
    · rename_i c; rw [c]; rfl
    split
    · rename_i c; rw [c]; rfl
    split
    · rename_i c; rw [c]; rfl
    rfl
  have this := lp_take4_49 (E := E) (d := d) (A := va_up A 4 (upd (A 4) 0 (A 49 0))) (A0 := A) (B := B) (K := K) hk hx hg hK (0, A 5, A 6, A 7, A 8, A 9) ⟨by omega, fun q hq => absurd hq (by simp)⟩
  rw [show (0, A 5, A 6, A 7, A 8, A 9).2 = (A 5, A 6, A 7, A 8, A 9) from rfl, e] at this
  exact hax _ _ _ _ this
