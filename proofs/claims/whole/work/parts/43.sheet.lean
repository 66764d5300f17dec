/-! SHEETS -/
theorem rS1_c {A A' : Nat → Nat → Int32} {B B' : Nat → Nat → Int64} {a b i o : Nat} (h : rS1 A B a b i o) (h1 : A' a 0 = A a 0 ∧ A' a 1 = A a 1) (h2 : A' 82 i = A 82 i) (h3 : A' 83 i = A 83 i) (h4 : ∀ j, j < 40 → B' b j = B b j) (h5 : ∀ j, j < 40 → B' 84 (o + j) = B 84 (o + j)) : rS1 A' B' a b i o := by
  obtain ⟨e1, e2, ⟨k, k1, k2, k3⟩, e4⟩ := h
  refine ⟨by rw [h1.1, h2]; exact e1, by rw [h2]; exact e2, ⟨k, k1, by rw [h1.2]; exact k2, by rw [h3]; exact k3⟩, fun j hj => ?_⟩
  rw [h4 j hj, h5 j hj]
  exact e4 j hj
theorem udl_s {f : Nat → Int64} {k : Nat} {v : Int64} : vp_updL f k v k = v := by simp [vp_updL]
theorem udl_n {f : Nat → Int64} {k j : Nat} {v : Int64} (h : j ≠ k) : vp_updL f k v j = f j := by simp [vp_updL, h]
theorem lp_begin65 {E : ME} {d : Nat} {A A0 : Nat → Nat → Int32} {B B0 : Nat → Nat → Int64} {K : MK} {u w : Int32} (hK : ∀ L : Nat → Int64, (∀ j, j < 40 → L j = 0) → K none (SH, A, va_up B 66 L)) : ∀ p : Nat × (Nat → Int64), (p.1 ≤ 40 ∧ ∀ j, j < p.1 → p.2 j = 0) → mSem E d nX3_begin (SH, A0, B0) 0 0 K 12 [some (.ref 65), some (.int u), some (.int w), some (.int (nI p.1))] [] (SH, A, va_up B 66 p.2) := by
  refine mSem_loop (σ := Nat × (Nat → Int64)) (h0 := (SH, A0, B0)) MX3_begin rfl aX3_begin 300 [12] (fun p => [some (.ref 65), some (.int u), some (.int w), some (.int (nI p.1))]) (fun p => (SH, A, va_up B 66 p.2)) (fun p => p.1 ≤ 40 ∧ ∀ j, j < p.1 → p.2 j = 0) (fun p => 40 - p.1) ?_
  rintro ⟨j, L⟩ ⟨hj, hL⟩ cl ax hcl hax hlp
  have hj : j ≤ 40 := hj
  have hL : ∀ i, i < j → L i = 0 := hL
  have e8 : (nI j).toNatClampNeg = j := nI_clamp (by omega)
  refine ⟨fun (c0 : nI 40 ≤ nI j) => ?_, fun (c0 : ¬ nI 40 ≤ nI j) => ?_⟩
  · rw [nI_leI (by omega) (by omega)] at c0
    have : j = 40 := by omega
    subst this
    exact hK L hL
  · rw [nI_leI (by omega) (by omega)] at c0
    refine ⟨vp_in_nI (N := 40) (by omega) (by decide), ?_⟩
    have this : ax 12 [some (.ref 65), some (.int u), some (.int w), some (.int (nI j + 1))] [] (SH, A, va_up B 66 (vp_updL L (nI j).toNatClampNeg 0)) := by
      rw [nI_1]
      refine hlp (j + 1, _) ⟨by show j + 1 ≤ 40; omega, fun i hi => ?_⟩ (by show 40 - (j + 1) < 40 - j; omega)
      have hi : i < j + 1 := hi
      show vp_updL L _ 0 i = 0
      rw [e8]
      by_cases e : i = j
      · subst e; rw [udl_s]
      · rw [udl_n e]; exact hL i (by omega)
    rw [← up_up (F := L)] at this
    exact this
theorem w_begin65 {E : ME} {d : Nat} {A : Nat → Nat → Int32} {B : Nat → Nat → Int64} {K : MK} {u w : Int32} (hK : ∀ L : Nat → Int64, (∀ j, j < 40 → L j = 0) → K none (SH, va_up A 65 (upd (upd (A 65) 0 u) 1 w), va_up B 66 L)) : mCall E d nX3_begin [.ref 65, .int u, .int w] (SH, A, B) K := by
  refine mCall_sem MX3_begin rfl rfl (Or.inl ⟨rfl, rfl, rfl⟩) rfl (mSem_wp MX3_begin rfl aX3_begin 300 [12] (fun cl ax hcl hax => ?_))
  have e : va_up B 66 (B 66) = B := by
    funext q
    unfold va_up
    split
    · rename_i c; rw [c]
    · rfl
  have this := lp_begin65 (E := E) (d := d) (A := va_up A 65 (upd (upd (A 65) 0 u) 1 w)) (A0 := A) (B := B) (B0 := B) (K := K) (u := u) (w := w) hK (0, B 66) ⟨by omega, fun q hq => absurd hq (by simp)⟩
  rw [show (0, B 66).2 = B 66 from rfl, e, ← up_up (F := upd (A 65) 0 u)] at this
  exact hax _ _ _ _ this
theorem lp_begin67 {E : ME} {d : Nat} {A A0 : Nat → Nat → Int32} {B B0 : Nat → Nat → Int64} {K : MK} {u w : Int32} (hK : ∀ L : Nat → Int64, (∀ j, j < 40 → L j = 0) → K none (SH, A, va_up B 68 L)) : ∀ p : Nat × (Nat → Int64), (p.1 ≤ 40 ∧ ∀ j, j < p.1 → p.2 j = 0) → mSem E d nX3_begin (SH, A0, B0) 0 0 K 12 [some (.ref 67), some (.int u), some (.int w), some (.int (nI p.1))] [] (SH, A, va_up B 68 p.2) := by
  refine mSem_loop (σ := Nat × (Nat → Int64)) (h0 := (SH, A0, B0)) MX3_begin rfl aX3_begin 300 [12] (fun p => [some (.ref 67), some (.int u), some (.int w), some (.int (nI p.1))]) (fun p => (SH, A, va_up B 68 p.2)) (fun p => p.1 ≤ 40 ∧ ∀ j, j < p.1 → p.2 j = 0) (fun p => 40 - p.1) ?_
  rintro ⟨j, L⟩ ⟨hj, hL⟩ cl ax hcl hax hlp
  have hj : j ≤ 40 := hj
  have hL : ∀ i, i < j → L i = 0 := hL
  have e8 : (nI j).toNatClampNeg = j := nI_clamp (by omega)
  refine ⟨fun (c0 : nI 40 ≤ nI j) => ?_, fun (c0 : ¬ nI 40 ≤ nI j) => ?_⟩
  · rw [nI_leI (by omega) (by omega)] at c0
    have : j = 40 := by omega
    subst this
    exact hK L hL
  · rw [nI_leI (by omega) (by omega)] at c0
    refine ⟨vp_in_nI (N := 40) (by omega) (by decide), ?_⟩
    have this : ax 12 [some (.ref 67), some (.int u), some (.int w), some (.int (nI j + 1))] [] (SH, A, va_up B 68 (vp_updL L (nI j).toNatClampNeg 0)) := by
      rw [nI_1]
      refine hlp (j + 1, _) ⟨by show j + 1 ≤ 40; omega, fun i hi => ?_⟩ (by show 40 - (j + 1) < 40 - j; omega)
      have hi : i < j + 1 := hi
      show vp_updL L _ 0 i = 0
      rw [e8]
      by_cases e : i = j
      · subst e; rw [udl_s]
      · rw [udl_n e]; exact hL i (by omega)
    rw [← up_up (F := L)] at this
    exact this
theorem w_begin67 {E : ME} {d : Nat} {A : Nat → Nat → Int32} {B : Nat → Nat → Int64} {K : MK} {u w : Int32} (hK : ∀ L : Nat → Int64, (∀ j, j < 40 → L j = 0) → K none (SH, va_up A 67 (upd (upd (A 67) 0 u) 1 w), va_up B 68 L)) : mCall E d nX3_begin [.ref 67, .int u, .int w] (SH, A, B) K := by
  refine mCall_sem MX3_begin rfl rfl (Or.inl ⟨rfl, rfl, rfl⟩) rfl (mSem_wp MX3_begin rfl aX3_begin 300 [12] (fun cl ax hcl hax => ?_))
  have e : va_up B 68 (B 68) = B := by
    funext q
    unfold va_up
    split
    · rename_i c; rw [c]
    · rfl
  have this := lp_begin67 (E := E) (d := d) (A := va_up A 67 (upd (upd (A 67) 0 u) 1 w)) (A0 := A) (B := B) (B0 := B) (K := K) (u := u) (w := w) hK (0, B 68) ⟨by omega, fun q hq => absurd hq (by simp)⟩
  rw [show (0, B 68).2 = B 68 from rfl, e, ← up_up (F := upd (A 67) 0 u)] at this
  exact hax _ _ _ _ this
theorem lp_begin69 {E : ME} {d : Nat} {A A0 : Nat → Nat → Int32} {B B0 : Nat → Nat → Int64} {K : MK} {u w : Int32} (hK : ∀ L : Nat → Int64, (∀ j, j < 40 → L j = 0) → K none (SH, A, va_up B 70 L)) : ∀ p : Nat × (Nat → Int64), (p.1 ≤ 40 ∧ ∀ j, j < p.1 → p.2 j = 0) → mSem E d nX3_begin (SH, A0, B0) 0 0 K 12 [some (.ref 69), some (.int u), some (.int w), some (.int (nI p.1))] [] (SH, A, va_up B 70 p.2) := by
  refine mSem_loop (σ := Nat × (Nat → Int64)) (h0 := (SH, A0, B0)) MX3_begin rfl aX3_begin 300 [12] (fun p => [some (.ref 69), some (.int u), some (.int w), some (.int (nI p.1))]) (fun p => (SH, A, va_up B 70 p.2)) (fun p => p.1 ≤ 40 ∧ ∀ j, j < p.1 → p.2 j = 0) (fun p => 40 - p.1) ?_
  rintro ⟨j, L⟩ ⟨hj, hL⟩ cl ax hcl hax hlp
  have hj : j ≤ 40 := hj
  have hL : ∀ i, i < j → L i = 0 := hL
  have e8 : (nI j).toNatClampNeg = j := nI_clamp (by omega)
  refine ⟨fun (c0 : nI 40 ≤ nI j) => ?_, fun (c0 : ¬ nI 40 ≤ nI j) => ?_⟩
  · rw [nI_leI (by omega) (by omega)] at c0
    have : j = 40 := by omega
    subst this
    exact hK L hL
  · rw [nI_leI (by omega) (by omega)] at c0
    refine ⟨vp_in_nI (N := 40) (by omega) (by decide), ?_⟩
    have this : ax 12 [some (.ref 69), some (.int u), some (.int w), some (.int (nI j + 1))] [] (SH, A, va_up B 70 (vp_updL L (nI j).toNatClampNeg 0)) := by
      rw [nI_1]
      refine hlp (j + 1, _) ⟨by show j + 1 ≤ 40; omega, fun i hi => ?_⟩ (by show 40 - (j + 1) < 40 - j; omega)
      have hi : i < j + 1 := hi
      show vp_updL L _ 0 i = 0
      rw [e8]
      by_cases e : i = j
      · subst e; rw [udl_s]
      · rw [udl_n e]; exact hL i (by omega)
    rw [← up_up (F := L)] at this
    exact this
theorem w_begin69 {E : ME} {d : Nat} {A : Nat → Nat → Int32} {B : Nat → Nat → Int64} {K : MK} {u w : Int32} (hK : ∀ L : Nat → Int64, (∀ j, j < 40 → L j = 0) → K none (SH, va_up A 69 (upd (upd (A 69) 0 u) 1 w), va_up B 70 L)) : mCall E d nX3_begin [.ref 69, .int u, .int w] (SH, A, B) K := by
  refine mCall_sem MX3_begin rfl rfl (Or.inl ⟨rfl, rfl, rfl⟩) rfl (mSem_wp MX3_begin rfl aX3_begin 300 [12] (fun cl ax hcl hax => ?_))
  have e : va_up B 70 (B 70) = B := by
    funext q
    unfold va_up
    split
    · rename_i c; rw [c]
    · rfl
  have this := lp_begin69 (E := E) (d := d) (A := va_up A 69 (upd (upd (A 69) 0 u) 1 w)) (A0 := A) (B := B) (B0 := B) (K := K) (u := u) (w := w) hK (0, B 70) ⟨by omega, fun q hq => absurd hq (by simp)⟩
  rw [show (0, B 70).2 = B 70 from rfl, e, ← up_up (F := upd (A 69) 0 u)] at this
  exact hax _ _ _ _ this
theorem lp_begin71 {E : ME} {d : Nat} {A A0 : Nat → Nat → Int32} {B B0 : Nat → Nat → Int64} {K : MK} {u w : Int32} (hK : ∀ L : Nat → Int64, (∀ j, j < 40 → L j = 0) → K none (SH, A, va_up B 72 L)) : ∀ p : Nat × (Nat → Int64), (p.1 ≤ 40 ∧ ∀ j, j < p.1 → p.2 j = 0) → mSem E d nX3_begin (SH, A0, B0) 0 0 K 12 [some (.ref 71), some (.int u), some (.int w), some (.int (nI p.1))] [] (SH, A, va_up B 72 p.2) := by
  refine mSem_loop (σ := Nat × (Nat → Int64)) (h0 := (SH, A0, B0)) MX3_begin rfl aX3_begin 300 [12] (fun p => [some (.ref 71), some (.int u), some (.int w), some (.int (nI p.1))]) (fun p => (SH, A, va_up B 72 p.2)) (fun p => p.1 ≤ 40 ∧ ∀ j, j < p.1 → p.2 j = 0) (fun p => 40 - p.1) ?_
  rintro ⟨j, L⟩ ⟨hj, hL⟩ cl ax hcl hax hlp
  have hj : j ≤ 40 := hj
  have hL : ∀ i, i < j → L i = 0 := hL
  have e8 : (nI j).toNatClampNeg = j := nI_clamp (by omega)
  refine ⟨fun (c0 : nI 40 ≤ nI j) => ?_, fun (c0 : ¬ nI 40 ≤ nI j) => ?_⟩
  · rw [nI_leI (by omega) (by omega)] at c0
    have : j = 40 := by omega
    subst this
    exact hK L hL
  · rw [nI_leI (by omega) (by omega)] at c0
    refine ⟨vp_in_nI (N := 40) (by omega) (by decide), ?_⟩
    have this : ax 12 [some (.ref 71), some (.int u), some (.int w), some (.int (nI j + 1))] [] (SH, A, va_up B 72 (vp_updL L (nI j).toNatClampNeg 0)) := by
      rw [nI_1]
      refine hlp (j + 1, _) ⟨by show j + 1 ≤ 40; omega, fun i hi => ?_⟩ (by show 40 - (j + 1) < 40 - j; omega)
      have hi : i < j + 1 := hi
      show vp_updL L _ 0 i = 0
      rw [e8]
      by_cases e : i = j
      · subst e; rw [udl_s]
      · rw [udl_n e]; exact hL i (by omega)
    rw [← up_up (F := L)] at this
    exact this
theorem w_begin71 {E : ME} {d : Nat} {A : Nat → Nat → Int32} {B : Nat → Nat → Int64} {K : MK} {u w : Int32} (hK : ∀ L : Nat → Int64, (∀ j, j < 40 → L j = 0) → K none (SH, va_up A 71 (upd (upd (A 71) 0 u) 1 w), va_up B 72 L)) : mCall E d nX3_begin [.ref 71, .int u, .int w] (SH, A, B) K := by
  refine mCall_sem MX3_begin rfl rfl (Or.inl ⟨rfl, rfl, rfl⟩) rfl (mSem_wp MX3_begin rfl aX3_begin 300 [12] (fun cl ax hcl hax => ?_))
  have e : va_up B 72 (B 72) = B := by
    funext q
    unfold va_up
    split
    · rename_i c; rw [c]
    · rfl
  have this := lp_begin71 (E := E) (d := d) (A := va_up A 71 (upd (upd (A 71) 0 u) 1 w)) (A0 := A) (B := B) (B0 := B) (K := K) (u := u) (w := w) hK (0, B 72) ⟨by omega, fun q hq => absurd hq (by simp)⟩
  rw [show (0, B 72).2 = B 72 from rfl, e, ← up_up (F := upd (A 71) 0 u)] at this
  exact hax _ _ _ _ this
/-- the model's numbers of a sheet become 0 -/
def zI (s j : Nat) (L0 L : Nat → Int64) : Prop := j ≤ 40 ∧ (∀ q, ¬ (40 * s ≤ q ∧ q < 40 * s + j) → L q = L0 q) ∧ ∀ i, i < j → L (40 * s + i) = 0
theorem zIx (s j : Nat) : 40 * nI s + nI j = nI (40 * s + j) := by
  rw [show (40 : Int32) * nI s = nI (40 * s) from pk_mul 40 s, nI_add]
theorem lp_X9_sheet {E : ME} {d : Nat} {A A0 : Nat → Nat → Int32} {B B0 : Nat → Nat → Int64} {K : MK} {u w : Int32} {s : Nat} (hs : s < 4) (L0 : Nat → Int64) (hK : ∀ L : Nat → Int64, zI s 40 L0 L → K (some (.int (A 83 s))) (SH, A, va_up B 84 L)) : ∀ p : Nat × (Nat → Int64), zI s p.1 L0 p.2 → mSem E d nX9_sheet (SH, A0, B0) 0 0 K 86 [some (.ref 74), some (.int (nI s)), some (.int u), some (.int w), some (.int (nI p.1))] [] (SH, A, va_up B 84 p.2) := by
  refine mSem_loop (σ := Nat × (Nat → Int64)) (h0 := (SH, A0, B0)) MX9_sheet rfl aX9_sheet 300 [86] (fun p => [some (.ref 74), some (.int (nI s)), some (.int u), some (.int w), some (.int (nI p.1))]) (fun p => (SH, A, va_up B 84 p.2)) (fun p => zI s p.1 L0 p.2) (fun p => 40 - p.1) ?_
  rintro ⟨j, L⟩ hI cl ax hcl hax hlp
  have hI : zI s j L0 L := hI
  obtain ⟨hj, h1, h2⟩ := hI
  have es : (nI s).toNatClampNeg = s := nI_clamp (by omega)
  have e8 : (40 * nI s + nI j).toNatClampNeg = 40 * s + j := by rw [zIx]; exact nI_clamp (by omega)
  refine ⟨fun (c0 : nI 40 ≤ nI j) => ?_, fun (c0 : ¬ nI 40 ≤ nI j) => ?_⟩
  · rw [nI_leI (by omega) (by omega)] at c0
    have : j = 40 := by omega
    subst this
    refine ⟨vp_in_nI (N := 4) (by omega) (by decide), ?_⟩
    have this := hK L ⟨hj, h1, h2⟩
    rw [← es] at this
    rw [es] at this
    have e : A 83 s = A 83 (nI s).toNatClampNeg := by rw [es]
    rw [e] at this
    exact this
  · rw [nI_leI (by omega) (by omega)] at c0
    refine ⟨show vp_in (40 * nI s + nI j) 160 by rw [zIx]; exact vp_in_nI (by omega) (by decide), ?_⟩
    have this : ax 86 [some (.ref 74), some (.int (nI s)), some (.int u), some (.int w), some (.int (nI j + 1))] [] (SH, A, va_up B 84 (vp_updL L (40 * nI s + nI j).toNatClampNeg 0)) := by
      rw [nI_1]
      refine hlp (j + 1, _) ⟨by show j + 1 ≤ 40; omega, fun q hq => ?_, fun i hi => ?_⟩ (by show 40 - (j + 1) < 40 - j; omega)
      · have hq : ¬ (40 * s ≤ q ∧ q < 40 * s + (j + 1)) := hq
        show vp_updL L _ 0 q = _
        rw [e8, udl_n (by omega)]
        exact h1 q (by omega)
      · have hi : i < j + 1 := hi
        show vp_updL L _ 0 (40 * s + i) = 0
        rw [e8]
        by_cases e : i = j
        · subst e; rw [udl_s]
        · rw [udl_n (by omega)]; exact h2 i (by omega)
    rw [← up_up (F := L)] at this
    exact this
theorem rS1_new {A : Nat → Nat → Int32} {B : Nat → Nat → Int64} {a b s : Nat} {u : Int32} {m : Nat} (hu : u = 0 ∨ u = 8 ∨ u = 16 ∨ u = 64) (hm : m ≤ 40) (h1 : A a 0 = u ∧ A a 1 = nI m) (h2 : A 82 s = u) (h3 : A 83 s = nI m) (h4 : ∀ j, j < 40 → B b j = 0) (h5 : ∀ j, j < 40 → B 84 (40 * s + j) = 0) : rS1 A B a b s (40 * s) :=
  ⟨by rw [h1.1, h2], by rw [h2]; exact hu, ⟨m, hm, h1.2, h3⟩, fun j hj => by rw [h4 j hj, h5 j hj]⟩
