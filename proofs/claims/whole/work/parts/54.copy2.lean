/-! copy: the model, the operation -/
def cI (o c : Nat) (F L0 L : Nat → Int64) : Prop := (∀ x, x < c → L (o + x) = F x) ∧ ∀ q, ¬ (o ≤ q ∧ q < o + c) → L q = L0 q
theorem cI_0 {o : Nat} {F L0 : Nat → Int64} : cI o 0 F L0 L0 := ⟨fun x hx => absurd hx (by omega), fun _ _ => rfl⟩
theorem cI_go {o c : Nat} {F L0 L : Nat → Int64} (h : cI o c F L0 L) : cI o (c + 1) F L0 (vp_updL L (o + c) (F c)) := by
  obtain ⟨h1, h2⟩ := h
  refine ⟨fun x hx => ?_, fun q hq => ?_⟩
  · by_cases e : x = c
    · subst e; rw [udl_s]
    · rw [udl_n (by omega)]; exact h1 x (by omega)
  · rw [udl_n (by omega)]; exact h2 q (by omega)
theorem zIx3 (s i j : Nat) : 40 * nI s + nI i + nI j = nI (40 * s + i + j) := by
  rw [show (40 : Int32) * nI s = nI (40 * s) from pk_mul 40 s, nI_add, nI_add]
theorem lp2_X9_copy {E : ME} {d : Nat} {A A0 : Nat → Nat → Int32} {B B0 : Nat → Nat → Int64} {K : MK} {s t i j c : Nat} (ht : t < 4) (hj : j + c ≤ 40) (F L0 : Nat → Int64) (hF : B 85 = F) (hK : ∀ L, cI (40 * t + j) c F L0 L → K (some (.int (nI c))) (SH, A, va_up B 84 L)) : ∀ p : Nat × (Nat → Int64), (p.1 ≤ c ∧ cI (40 * t + j) p.1 F L0 p.2) → mSem E d nX9_copy (SH, A0, B0) 0 0 K 165 [some (.ref 74), some (.int (nI s)), some (.int (nI i)), some (.int (nI t)), some (.int (nI j)), some (.int (nI c)), some (.int (nI p.1))] [] (SH, A, va_up B 84 p.2) := by
  subst hF
  refine mSem_loop (σ := Nat × (Nat → Int64)) (h0 := (SH, A0, B0)) MX9_copy rfl aX9_copy 300 [165] (fun p => [some (.ref 74), some (.int (nI s)), some (.int (nI i)), some (.int (nI t)), some (.int (nI j)), some (.int (nI c)), some (.int (nI p.1))]) (fun p => (SH, A, va_up B 84 p.2)) (fun p => p.1 ≤ c ∧ cI (40 * t + j) p.1 (B 85) L0 p.2) (fun p => c - p.1) ?_
  rintro ⟨x, L⟩ ⟨hx, hL⟩ cl ax hcl hax hlp
  have hx : x ≤ c := hx
  have hL : cI (40 * t + j) x (B 85) L0 L := hL
  have e8 : (nI x).toNatClampNeg = x := nI_clamp (by omega)
  have e9 : (40 * nI t + nI j + nI x).toNatClampNeg = 40 * t + j + x := by rw [zIx3]; exact nI_clamp (by omega)
  refine ⟨fun (c0 : nI c ≤ nI x) => ?_, fun (c0 : ¬ nI c ≤ nI x) => ?_⟩
  · rw [nI_leI (by omega) (by omega)] at c0
    have : x = c := by omega
    subst this
    exact hK L hL
  · rw [nI_leI (by omega) (by omega)] at c0
    refine ⟨vp_in_nI (N := 40) (by omega) (by decide), ?_⟩
    refine ⟨show vp_in (40 * nI t + nI j + nI x) 160 by rw [zIx3]; exact vp_in_nI (by omega) (by decide), ?_⟩
    have this : ax 165 [some (.ref 74), some (.int (nI s)), some (.int (nI i)), some (.int (nI t)), some (.int (nI j)), some (.int (nI c)), some (.int (nI (x + 1)))] [] (SH, A, va_up B 84 (vp_updL L (40 * t + j + x) (B 85 x))) := hlp (x + 1, _) ⟨by show x + 1 ≤ c; omega, cI_go hL⟩ (by show c - (x + 1) < c - x; omega)
    rw [← nI_1, ← up_up (F := L), ← e9] at this
    rw [show B 85 x = B 85 (nI x).toNatClampNeg by rw [e8]] at this
    exact this
theorem lp1_X9_copy {E : ME} {d : Nat} {A A0 : Nat → Nat → Int32} {B B0 : Nat → Nat → Int64} {K : MK} {s t i j c : Nat} (hs : s < 4) (ht : t < 4) (hi : i + c ≤ 40) (hj : j + c ≤ 40) (hK : ∀ F L, (∀ x, x < c → F x = B 84 (40 * s + i + x)) → cI (40 * t + j) c F (B 84) L → K (some (.int (nI c))) (SH, A, va_up (va_up B 85 F) 84 L)) : ∀ p : Nat × (Nat → Int64), (p.1 ≤ c ∧ ∀ x, x < p.1 → p.2 x = B 84 (40 * s + i + x)) → mSem E d nX9_copy (SH, A0, B0) 0 0 K 128 [some (.ref 74), some (.int (nI s)), some (.int (nI i)), some (.int (nI t)), some (.int (nI j)), some (.int (nI c)), some (.int (nI p.1))] [] (SH, A, va_up B 85 p.2) := by
  refine mSem_loop (σ := Nat × (Nat → Int64)) (h0 := (SH, A0, B0)) MX9_copy rfl aX9_copy 300 [128, 165] (fun p => [some (.ref 74), some (.int (nI s)), some (.int (nI i)), some (.int (nI t)), some (.int (nI j)), some (.int (nI c)), some (.int (nI p.1))]) (fun p => (SH, A, va_up B 85 p.2)) (fun p => p.1 ≤ c ∧ ∀ x, x < p.1 → p.2 x = B 84 (40 * s + i + x)) (fun p => c - p.1) ?_
  rintro ⟨x, F⟩ ⟨hx, hF⟩ cl ax hcl hax hlp
  have hx : x ≤ c := hx
  have hF : ∀ y, y < x → F y = B 84 (40 * s + i + y) := hF
  have e8 : (nI x).toNatClampNeg = x := nI_clamp (by omega)
  have e9 : (40 * nI s + nI i + nI x).toNatClampNeg = 40 * s + i + x := by rw [zIx3]; exact nI_clamp (by omega)
  refine ⟨fun (c0 : nI c ≤ nI x) => ?_, fun (c0 : ¬ nI c ≤ nI x) => ?_⟩
  · rw [nI_leI (by omega) (by omega)] at c0
    have : x = c := by omega
    subst this
    have e : va_up (va_up B 85 F) 84 (B 84) = va_up B 85 F := by
      funext q
      unfold va_up
      split
      · rename_i c; rw [c]; rfl
      · rfl
    have this := lp2_X9_copy (E := E) (d := d) (A := A) (A0 := A0) (B := va_up B 85 F) (B0 := B0) (K := K) (s := s) (i := i) ht hj F (B 84) rfl (fun L hL => hK F L hF hL) (0, B 84) ⟨by omega, cI_0⟩
    rw [show (0, B 84).2 = B 84 from rfl, e] at this
    exact hax _ _ _ _ this
  · rw [nI_leI (by omega) (by omega)] at c0
    refine ⟨show vp_in (40 * nI s + nI i + nI x) 160 by rw [zIx3]; exact vp_in_nI (by omega) (by decide), ?_⟩
    refine ⟨vp_in_nI (N := 40) (by omega) (by decide), ?_⟩
    have this : ax 128 [some (.ref 74), some (.int (nI s)), some (.int (nI i)), some (.int (nI t)), some (.int (nI j)), some (.int (nI c)), some (.int (nI (x + 1)))] [] (SH, A, va_up B 85 (vp_updL F x (B 84 (40 * s + i + x)))) := hlp (x + 1, _) ⟨by show x + 1 ≤ c; omega, fun y hy => by
      have hy : y < x + 1 := hy
      show vp_updL F x _ y = _
      by_cases e : y = x
      · subst e; rw [udl_s]
      · rw [udl_n e]; exact hF y (by omega)⟩ (by show c - (x + 1) < c - x; omega)
    rw [← nI_1, ← up_up (F := F), ← e9] at this
    rw [show vp_updL F x = vp_updL F (nI x).toNatClampNeg by rw [e8]] at this
    exact this
theorem w_X9_copy {E : ME} {d : Nat} {f g n : Int32} {k k' s t : Nat} (hs : s < 4) (ht : t < 4) {A : Nat → Nat → Int32} {B : Nat → Nat → Int64} {K : MK} (hk : k ≤ 40) (ha : A 83 s = nI k) (hk' : k' ≤ 40) (hb : A 83 t = nI k') (k5 : (A 82 s = 0 ∨ A 82 t = 0) → K (some (.int (-1000000006))) (SH, cnt2 A 5, B)) (k2 : ¬ (A 82 s = 0 ∨ A 82 t = 0) → ¬ A 82 s = A 82 t → K (some (.int (-1000000003))) (SH, cnt2 A 2, B)) (k0 : ¬ (A 82 s = 0 ∨ A 82 t = 0) → A 82 s = A 82 t → ¬ (RW (nI k) f n ∧ RW (nI k') g n) → K (some (.int (-1000000001))) (SH, cnt2 A 0, B)) (k1 : ¬ (A 82 s = 0 ∨ A 82 t = 0) → A 82 s = A 82 t → ∀ i j c, f = nI i → g = nI j → n = nI c → i + c ≤ k → j + c ≤ k' → RW (nI k) f n → RW (nI k') g n → ∀ F L, (∀ x, x < c → F x = B 84 (40 * s + i + x)) → cI (40 * t + j) c F (B 84) L → K (some (.int n)) (SH, A, va_up (va_up B 85 F) 84 L)) : mCall E (d + 2) nX9_copy [.ref 74, .int (nI s), .int f, .int (nI t), .int g, .int n] (SH, A, B) K := by
  have es : (nI s).toNatClampNeg = s := nI_clamp (by omega)
  have et : (nI t).toNatClampNeg = t := nI_clamp (by omega)
  have hv : vp_in (nI s) 4 := vp_in_nI (by omega) (by decide)
  have hw : vp_in (nI t) 4 := vp_in_nI (by omega) (by decide)
  refine mCall_sem MX9_copy rfl rfl (Or.inl ⟨rfl, rfl, rfl⟩) rfl (mSem_wp MX9_copy rfl aX9_copy 300 [128] (fun cl ax hcl hax => ?_))
  refine hcl _ _ _ _ (w_X9_isSheet (fun _ _ => ?_) (fun c0 => absurd (sh_s s hs) c0))
  refine ⟨fun h9 => absurd h9 (by decide), fun _ => ?_⟩
  refine hcl _ _ _ _ (w_X9_isSheet (fun _ _ => ?_) (fun c0 => absurd (sh_s t ht) c0))
  refine ⟨fun _ => ?_, fun h9 => absurd h9 (by decide)⟩
  refine ⟨hv, ?_⟩
  refine ⟨fun (c : A 82 (nI s).toNatClampNeg = 0) => ?_, fun (c : ¬ A 82 (nI s).toNatClampNeg = 0) => ?_⟩
  · rw [es] at c
    exact hcl _ _ _ _ (w_X9_finding 5 (by decide) (by decide) (k5 (Or.inl c)))
  rw [es] at c
  refine ⟨hw, ?_⟩
  refine ⟨fun (c2 : ¬ A 82 (nI t).toNatClampNeg = 0) => ?_, fun (c2 : A 82 (nI t).toNatClampNeg = 0) => ?_⟩
  · rw [et] at c2
    have cn : ¬ (A 82 s = 0 ∨ A 82 t = 0) := fun q => q.elim c c2
    refine ⟨hv, ?_⟩
    refine ⟨hw, ?_⟩
    refine ⟨fun (c3 : A 82 (nI s).toNatClampNeg = A 82 (nI t).toNatClampNeg) => ?_, fun (c3 : ¬ A 82 (nI s).toNatClampNeg = A 82 (nI t).toNatClampNeg) => ?_⟩
    · rw [es, et] at c3
      refine ⟨fun (c4 : f < 0) => ?_, fun (c4 : ¬ f < 0) => ?_⟩
      · refine hcl _ _ _ _ (w_X9_finding 0 (by decide) (by decide) (k0 cn c3 (fun q => ?_)))
        have q := q.1.1
        clear hcl hax k0 k1 k2 k5
        grind
      refine ⟨fun (c5 : g < 0) => ?_, fun (c5 : ¬ g < 0) => ?_⟩
      · refine hcl _ _ _ _ (w_X9_finding 0 (by decide) (by decide) (k0 cn c3 (fun q => ?_)))
        have q := q.2.1
        clear hcl hax k0 k1 k2 k5
        grind
      refine ⟨fun (c6 : n < 0) => ?_, fun (c6 : ¬ n < 0) => ?_⟩
      · refine hcl _ _ _ _ (w_X9_finding 0 (by decide) (by decide) (k0 cn c3 (fun q => ?_)))
        have q := q.1.2.1
        clear hcl hax k0 k1 k2 k5
        grind
      refine ⟨hv, ?_⟩
      have f0 : 0 ≤ f := by clear hcl hax k0 k1 k2 k5; grind
      have g0 : 0 ≤ g := by clear hcl hax k0 k1 k2 k5; grind
      have n0 : 0 ≤ n := by clear hcl hax k0 k1 k2 k5; grind
      refine ⟨fun (c7 : 0 < lg_cmp (f.toInt64 + n.toInt64) (A 83 (nI s).toNatClampNeg).toInt64) => ?_, fun (c7 : ¬ 0 < lg_cmp (f.toInt64 + n.toInt64) (A 83 (nI s).toNatClampNeg).toInt64) => ?_⟩
      · rw [es, ha, RW_m hk f0 n0] at c7
        exact hcl _ _ _ _ (w_X9_finding 0 (by decide) (by decide) (k0 cn c3 (fun q => c7 q.1)))
      rw [es, ha, RW_m hk f0 n0] at c7
      have c7 := Classical.not_not.mp c7
      refine ⟨hw, ?_⟩
      refine ⟨fun (c8 : lg_cmp (g.toInt64 + n.toInt64) (A 83 (nI t).toNatClampNeg).toInt64 ≤ 0) => ?_, fun (c8 : ¬ lg_cmp (g.toInt64 + n.toInt64) (A 83 (nI t).toNatClampNeg).toInt64 ≤ 0) => ?_⟩
      · rw [et, hb] at c8
        have c9 : RW (nI k') g n := by
          refine Classical.byContradiction (fun q => ?_)
          rw [← RW_m hk' g0 n0] at q
          clear hcl hax k0 k1 k2 k5
          grind
        obtain ⟨i, c, e1, e2, e3⟩ := RW_n hk c7
        obtain ⟨j, c', e4, e5, e6⟩ := RW_n hk' c9
        have : c' = c := by
          rw [e2] at e5
          exact ((nI_eq (by omega) (by omega)).mp e5).symm
        subst this
        have kk := k1 cn c3 i j c' e1 e4 e2 e3 e6 c7 c9
        subst e1
        subst e2
        subst e4
        have e : va_up B 85 (B 85) = B := by
          funext q
          unfold va_up
          split
          · rename_i c; rw [c]
          · rfl
        have this := lp1_X9_copy (E := E) (d := d + 2) (A := A) (A0 := A) (B := B) (B0 := B) (K := K) (s := s) (t := t) (i := i) (j := j) (c := c') hs ht (by omega) (by omega) kk (0, B 85) ⟨by omega, fun x hx => absurd hx (by simp)⟩
        rw [show (0, B 85).2 = B 85 from rfl, e] at this
        exact hax _ _ _ _ this
      · rw [et, hb] at c8
        have c9 : ¬ RW (nI k') g n := by
          rw [← RW_m hk' g0 n0]
          clear hcl hax k0 k1 k2 k5
          grind
        exact hcl _ _ _ _ (w_X9_finding 0 (by decide) (by decide) (k0 cn c3 (fun q => c9 q.2)))
    · rw [es, et] at c3
      exact hcl _ _ _ _ (w_X9_finding 2 (by decide) (by decide) (k2 cn c3))
  · rw [et] at c2
    exact hcl _ _ _ _ (w_X9_finding 5 (by decide) (by decide) (k5 (Or.inr c2)))
theorem rS1_cp {A : Nat → Nat → Int32} {B B' : Nat → Nat → Int64} {a2 a p q s t i j c : Nat} {F : Nat → Int64} (hs : rS1 A B a2 p s (40 * s)) (ht : rS1 A B a q t (40 * t)) (hi : i + c ≤ 40) (h4 : B' q = va_cpy (B p) (B q) i j c) (hF : ∀ x, x < c → F x = B 84 (40 * s + i + x)) (h5 : cI (40 * t + j) c F (B 84) (B' 84)) : rS1 A B' a q t (40 * t) := by
  refine ⟨ht.1, ht.2.1, ht.2.2.1, fun x hx => ?_⟩
  rw [h4]
  by_cases e : j ≤ x ∧ x < j + c
  · rw [pk_cpy_in e.1 e.2, hs.2.2.2 (i + (x - j)) (by omega)]
    have := h5.1 (x - j) (by omega)
    rw [hF (x - j) (by omega)] at this
    rw [show 40 * t + x = 40 * t + j + (x - j) by omega, this, Nat.add_assoc]
  · rw [pk_cpy_out (by omega), h5.2 _ (by omega)]
    exact ht.2.2.2 x hx
