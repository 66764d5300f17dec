/-! learnt -/
/-- does the stake s fit the pace p in this lane -/
def FSx (A : Nat → Nat → Int32) (ln p : Int32) (s : Nat) : Prop := A 14 s = ln → sa (fun j => fl (A 2 1) p (A 15 s + nI j)) 0 (A 16 s).toNatClampNeg = A 17 s
def FSm (N : Nat → Int32) (ln p : Int32) (s : Nat) : Prop := N (95 + 4 * s) = ln → sa (fun j => fl (N 2) p (N (96 + 4 * s) + nI j)) 0 (N (97 + 4 * s)).toNatClampNeg = N (98 + 4 * s)
theorem lp_fit {E : ME} {d : Nat} {A A0 : Nat → Nat → Int32} {B : Nat → Nat → Int64} {K : MK} {k : Nat} {ln p : Int32} (hk : k ≤ 10) (hx : A 13 0 = nI k) (hb : ∀ s, s < k → (0 ≤ A 15 s ∧ A 15 s ≤ 999) ∧ (1 ≤ A 16 s ∧ A 16 s ≤ 60)) (w0 : 0 ≤ A 2 1) (w1 : A 2 1 ≤ 127) (k1 : (∀ s, s < k → FSx A ln p s) → K (some (.int 1)) (SH, A, B)) (k0 : ∀ s, s < k → ¬ FSx A ln p s → K (some (.int 0)) (SH, A, B)) : ∀ s, (s ≤ k ∧ ∀ q, q < s → FSx A ln p q) → mSem E (d + 2) nX4_fit (SH, A0, B) 0 0 K 3 [some (.ref 13), some (.int ln), some (.int p), some (.ref 2), some (.int (nI s))] [] (SH, A, B) := by
  refine mSem_loop (h0 := (SH, A0, B)) MX4_fit rfl aX4_fit 300 [3] (fun s => [some (.ref 13), some (.int ln), some (.int p), some (.ref 2), some (.int (nI s))]) (fun s => (SH, A, B)) (fun s => s ≤ k ∧ ∀ q, q < s → FSx A ln p q) (fun s => k - s) ?_
  rintro s ⟨hs, hI⟩ cl ax hcl hax hlp
  have e8 : (nI s).toNatClampNeg = s := nI_clamp (by omega)
  refine ⟨fun (c : A 13 0 ≤ nI s) => ?_, fun (c : ¬ A 13 0 ≤ nI s) => ?_⟩
  · rw [hx, nI_leI (by omega) (by omega)] at c
    have : s = k := by omega
    subst this
    exact ⟨rfl, k1 hI⟩
  · rw [hx, nI_leI (by omega) (by omega)] at c
    have hv : vp_in (nI s) 10 := vp_in_nI (by omega) (by decide)
    have nx : FSx A ln p s → ax 3 [some (.ref 13), some (.int ln), some (.int p), some (.ref 2), some (.int (nI s + 1))] [] (SH, A, B) := fun q => by
      rw [nI_1]
      refine hlp (s + 1) ⟨by omega, fun i hi => ?_⟩ (by omega)
      by_cases e : i = s
      · rw [e]; exact q
      · exact hI i (by omega)
    refine ⟨hv, ?_⟩
    refine ⟨fun (c1 : ¬ A 14 (nI s).toNatClampNeg = ln) => ?_, fun (c1 : A 14 (nI s).toNatClampNeg = ln) => ?_⟩
    · rw [e8] at c1
      exact nx (fun q => absurd q c1)
    · rw [e8] at c1
      obtain ⟨⟨y0, y1⟩, n0, n1⟩ := hb s (by omega)
      obtain ⟨n, hn, en⟩ := ix_le 60 (show 0 ≤ A 16 s by clear hcl hax hlp nx k1 k0 hI hb; grind) n1 rfl
      refine ⟨hv, ?_⟩
      refine ⟨hv, ?_⟩
      refine hcl _ _ _ _ (w_wayAt n (show A 16 (nI s).toNatClampNeg = nI n by rw [e8]; exact en) hn (show 0 ≤ A 15 (nI s).toNatClampNeg by rw [e8]; exact y0) (show A 15 (nI s).toNatClampNeg ≤ 999 by rw [e8]; exact y1) w0 w1 ?_)
      refine ⟨hv, ?_⟩
      have ef : FSx A ln p s ↔ sa (fun j => fl (A 2 1) p (A 15 s + nI j)) 0 n = A 17 s := by
        unfold FSx
        rw [en, nI_clamp (by omega)]
        exact ⟨fun q => q c1, fun q _ => q⟩
      refine ⟨fun (c2 : sa (fun j => fl (A 2 1) p (A 15 (nI s).toNatClampNeg + nI j)) 0 n = A 17 (nI s).toNatClampNeg) => ?_, fun (c2 : ¬ sa (fun j => fl (A 2 1) p (A 15 (nI s).toNatClampNeg + nI j)) 0 n = A 17 (nI s).toNatClampNeg) => ?_⟩
      · rw [e8, ← ef] at c2
        exact nx c2
      · rw [e8, ← ef] at c2
        exact ⟨rfl, k0 s (by omega) c2⟩
theorem w_fit {E : ME} {d : Nat} {A : Nat → Nat → Int32} {B : Nat → Nat → Int64} {K : MK} {k : Nat} {ln p : Int32} (hk : k ≤ 10) (hx : A 13 0 = nI k) (hb : ∀ s, s < k → (0 ≤ A 15 s ∧ A 15 s ≤ 999) ∧ (1 ≤ A 16 s ∧ A 16 s ≤ 60)) (w0 : 0 ≤ A 2 1) (w1 : A 2 1 ≤ 127) (k1 : (∀ s, s < k → FSx A ln p s) → K (some (.int 1)) (SH, A, B)) (k0 : ¬ (∀ s, s < k → FSx A ln p s) → K (some (.int 0)) (SH, A, B)) : mCall E (d + 2) nX4_fit [.ref 13, .int ln, .int p, .ref 2] (SH, A, B) K := by
  refine mCall_sem MX4_fit rfl rfl (Or.inl ⟨rfl, rfl, rfl⟩) rfl (mSem_wp MX4_fit rfl aX4_fit 300 [3] (fun cl ax hcl hax => ?_))
  exact hax _ _ _ _ (lp_fit (d := d) hk hx hb w0 w1 k1 (fun s hs q => k0 (fun z => q (z s hs))) 0 ⟨by omega, fun q hq => absurd hq (by omega)⟩)
/-- the sum of one stake -/
theorem lp_hsum {E : ME} {d : Nat} {A A0 : Nat → Nat → Int32} {B : Nat → Nat → Int64} {K : MK} {s n : Nat} {ln p : Int32} {g : Int32} (hs : s < 10) (hn : n ≤ 60) (en : A 75 (97 + 4 * s) = nI n) (hx : ∀ g' z1 z2 z3, ((g' = 1 ∧ g = 1 ∧ FSm (A 75) ln p s) ∨ (g' = 0 ∧ ¬ (g = 1 ∧ FSm (A 75) ln p s))) → mSem E (d + 2) nX9_holdsAll (SH, A0, B) 0 0 K 5 [some (.ref 74), some (.int ln), some (.int p), some (.int g'), some (.int (nI (s + 1))), some (.int z1), some (.int z2), some (.int z3)] [] (SH, A, B)) (hg : g = 0 ∨ g = 1) : ∀ j, j ≤ n → mSem E (d + 2) nX9_holdsAll (SH, A0, B) 0 0 K 31 [some (.ref 74), some (.int ln), some (.int p), some (.int g), some (.int (nI s)), some (.int (95 + 4 * nI s)), some (.int (sa (fun j => fl (A 75 2) p (A 75 (96 + 4 * s) + nI j)) 0 j)), some (.int (nI j))] [] (SH, A, B) := by
  have i0 : 95 + 4 * nI s + 0 = nI (95 + 4 * s) := sIx s 0 _ (by omega)
  have i1 : 95 + 4 * nI s + 1 = nI (96 + 4 * s) := sIx s 1 _ (by omega)
  have i2 : 95 + 4 * nI s + 2 = nI (97 + 4 * s) := sIx s 2 _ (by omega)
  have i3 : 95 + 4 * nI s + 3 = nI (98 + 4 * s) := sIx s 3 _ (by omega)
  have c0 : (95 + 4 * nI s + 0).toNatClampNeg = 95 + 4 * s := by rw [i0]; exact nI_clamp (by omega)
  have c1 : (95 + 4 * nI s + 1).toNatClampNeg = 96 + 4 * s := by rw [i1]; exact nI_clamp (by omega)
  have c2 : (95 + 4 * nI s + 2).toNatClampNeg = 97 + 4 * s := by rw [i2]; exact nI_clamp (by omega)
  have c3 : (95 + 4 * nI s + 3).toNatClampNeg = 98 + 4 * s := by rw [i3]; exact nI_clamp (by omega)
  have v0 : vp_in (95 + 4 * nI s + 0) 135 := by rw [i0]; exact vp_in_nI (by omega) (by decide)
  have v1 : vp_in (95 + 4 * nI s + 1) 135 := by rw [i1]; exact vp_in_nI (by omega) (by decide)
  have v2 : vp_in (95 + 4 * nI s + 2) 135 := by rw [i2]; exact vp_in_nI (by omega) (by decide)
  have v3 : vp_in (95 + 4 * nI s + 3) 135 := by rw [i3]; exact vp_in_nI (by omega) (by decide)
  refine mSem_loop (h0 := (SH, A0, B)) MX9_holdsAll rfl aX9_holdsAll 300 [5, 31] (fun j => [some (.ref 74), some (.int ln), some (.int p), some (.int g), some (.int (nI s)), some (.int (95 + 4 * nI s)), some (.int (sa (fun j => fl (A 75 2) p (A 75 (96 + 4 * s) + nI j)) 0 j)), some (.int (nI j))]) (fun j => (SH, A, B)) (fun j => j ≤ n) (fun j => n - j) ?_
  intro j hj cl ax hcl hax hlp
  refine ⟨v2, ?_⟩
  refine ⟨fun (q0 : A 75 (95 + 4 * nI s + 2).toNatClampNeg ≤ nI j) => ?_, fun (q0 : ¬ A 75 (95 + 4 * nI s + 2).toNatClampNeg ≤ nI j) => ?_⟩
  · rw [c2, en, nI_leI (by omega) (by omega)] at q0
    have : j = n := by omega
    subst this
    have ef : FSm (A 75) ln p s ↔ (A 75 (95 + 4 * s) = ln → sa (fun j => fl (A 75 2) p (A 75 (96 + 4 * s) + nI j)) 0 j = A 75 (98 + 4 * s)) := by
      unfold FSm
      rw [en, nI_clamp (by omega)]
    have hx' := fun g' q => hx g' (95 + 4 * nI s) (sa (fun j => fl (A 75 2) p (A 75 (96 + 4 * s) + nI j)) 0 j) (nI j) q
    rw [← nI_1] at hx'
    refine ⟨fun (q1 : g = 0) => ?_, fun (q1 : ¬ g = 0) => ?_⟩
    · exact hax _ _ _ _ (hx' 0 (Or.inr ⟨rfl, fun q => absurd (q1.symm.trans q.1) (by decide)⟩))
    · have g1 := hg.resolve_left q1
      refine ⟨v0, ?_⟩
      refine ⟨fun (q2 : ¬ A 75 (95 + 4 * nI s + 0).toNatClampNeg = ln) => ?_, fun (q2 : A 75 (95 + 4 * nI s + 0).toNatClampNeg = ln) => ?_⟩
      · rw [c0] at q2
        exact hax _ _ _ _ (hx' 1 (Or.inl ⟨rfl, g1, ef.mpr (fun q => absurd q q2)⟩))
      · rw [c0] at q2
        refine ⟨v3, ?_⟩
        refine ⟨fun (q3 : ¬ sa (fun j => fl (A 75 2) p (A 75 (96 + 4 * s) + nI j)) 0 j = A 75 (95 + 4 * nI s + 3).toNatClampNeg) => ?_, fun (q3 : sa (fun j => fl (A 75 2) p (A 75 (96 + 4 * s) + nI j)) 0 j = A 75 (95 + 4 * nI s + 3).toNatClampNeg) => ?_⟩
        · rw [c3] at q3
          exact hax _ _ _ _ (hx' 0 (Or.inr ⟨rfl, fun q => q3 (ef.mp q.2 q2)⟩))
        · rw [c3] at q3
          exact hax _ _ _ _ (hx' 1 (Or.inl ⟨rfl, g1, ef.mpr (fun _ => q3)⟩))
  · rw [c2, en, nI_leI (by omega) (by omega)] at q0
    refine ⟨v1, ?_⟩
    refine hcl _ _ _ _ (w_goesBy ?_)
    have this : ax 31 [some (.ref 74), some (.int ln), some (.int p), some (.int g), some (.int (nI s)), some (.int (95 + 4 * nI s)), some (.int (sa (fun j => fl (A 75 2) p (A 75 (96 + 4 * s) + nI j)) 0 (j + 1))), some (.int (nI (j + 1)))] [] (SH, A, B) := hlp (j + 1) (by omega) (by omega)
    rw [← nI_1, sa] at this
    rw [← c1] at this ⊢
    exact this
theorem lp_hold {E : ME} {d : Nat} {A A0 : Nat → Nat → Int32} {B : Nat → Nat → Int64} {K : MK} {k : Nat} {ln p : Int32} (hk : k ≤ 10) (hx : A 75 5 = nI k) (hb : ∀ s, s < k → 1 ≤ A 75 (97 + 4 * s) ∧ A 75 (97 + 4 * s) ≤ 60) (k1 : (∀ s, s < k → FSm (A 75) ln p s) → K (some (.int 1)) (SH, A, B)) (k0 : ¬ (∀ s, s < k → FSm (A 75) ln p s) → K (some (.int 0)) (SH, A, B)) : ∀ (b s : Nat) (g : Int32) (o1 o2 o3 : Option Value), k - s < b → s ≤ k → ((g = 1 ∧ ∀ q, q < s → FSm (A 75) ln p q) ∨ (g = 0 ∧ ¬ ∀ q, q < s → FSm (A 75) ln p q)) → mSem E (d + 2) nX9_holdsAll (SH, A0, B) 0 0 K 5 [some (.ref 74), some (.int ln), some (.int p), some (.int g), some (.int (nI s)), o1, o2, o3] [] (SH, A, B) := by
  intro b
  induction b with
  | zero => intro s g o1 o2 o3 hb; omega
  | succ b ih =>
    intro s g o1 o2 o3 hlt hs hI
    have hg : g = 0 ∨ g = 1 := hI.elim (fun q => Or.inr q.1) (fun q => Or.inl q.1)
    refine mSem_wp MX9_holdsAll rfl aX9_holdsAll 300 [31] (fun cl ax hcl hax => ?_)
    refine ⟨vl 5 rfl rfl, ?_⟩
    refine ⟨fun (c : A 75 5 ≤ nI s) => ?_, fun (c : ¬ A 75 5 ≤ nI s) => ?_⟩
    · rw [hx, nI_leI (by omega) (by omega)] at c
      have : s = k := by omega
      subst this
      rcases hI with ⟨rfl, q⟩ | ⟨rfl, q⟩
      · exact ⟨rfl, k1 q⟩
      · exact ⟨rfl, k0 q⟩
    · rw [hx, nI_leI (by omega) (by omega)] at c
      obtain ⟨n0, n1⟩ := hb s (by omega)
      obtain ⟨n, hn, en⟩ := ix_le 60 (show 0 ≤ A 75 (97 + 4 * s) by clear hcl hax ih k1 k0 hb hI; grind) n1 rfl
      have key := lp_hsum (E := E) (d := d) (A := A) (A0 := A0) (B := B) (K := K) (ln := ln) (p := p) (g := g) (show s < 10 by omega) hn en (fun g' z1 z2 z3 hg' => ih (s + 1) g' _ _ _ (by omega) (by omega) (by
        rcases hg' with ⟨e1, e2, e3⟩ | ⟨e1, e2⟩
        · refine Or.inl ⟨e1, fun q hq => ?_⟩
          rcases hI with ⟨_, z⟩ | ⟨z, _⟩
          · by_cases e : q = s
            · rw [e]; exact e3
            · exact z q (by omega)
          · exact absurd (e2.symm.trans z) (by decide)
        · refine Or.inr ⟨e1, fun z => e2 ⟨?_, z s (by omega)⟩⟩
          rcases hI with ⟨y, _⟩ | ⟨_, y⟩
          · exact y
          · exact absurd (fun q hq => z q (by omega)) y)) hg 0 (by omega)
      exact hax _ _ _ _ key
theorem w_holdsAll {E : ME} {d : Nat} {A : Nat → Nat → Int32} {B : Nat → Nat → Int64} {K : MK} {k : Nat} {ln p : Int32} (hk : k ≤ 10) (hx : A 75 5 = nI k) (hb : ∀ s, s < k → 1 ≤ A 75 (97 + 4 * s) ∧ A 75 (97 + 4 * s) ≤ 60) (k1 : (∀ s, s < k → FSm (A 75) ln p s) → K (some (.int 1)) (SH, A, B)) (k0 : ¬ (∀ s, s < k → FSm (A 75) ln p s) → K (some (.int 0)) (SH, A, B)) : mCall E (d + 2) nX9_holdsAll [.ref 74, .int ln, .int p] (SH, A, B) K := by
  refine mCall_sem MX9_holdsAll rfl rfl (Or.inl ⟨rfl, rfl, rfl⟩) rfl (mSem_wp MX9_holdsAll rfl aX9_holdsAll 300 [5] (fun cl ax hcl hax => ?_))
  exact hax _ _ _ _ (lp_hold (d := d) hk hx hb k1 k0 (k + 1) 0 1 none none none (by omega) (by omega) (Or.inl ⟨rfl, fun q hq => absurd hq (by omega)⟩))
