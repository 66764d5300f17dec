/-! cost -/
def cf (N : Nat → Int32) (j : Nat) : Nat → Int32
  | 0 => N (17 + 5 * j)
  | m + 1 => if N (19 + 5 * j) = 0 then mn (cf N j m + sm N j (N 1 + nI m)) (N 0 - 1) else cf N j m
def cc (N : Nat → Int32) (m j : Nat) : Int32 := if N (19 + 5 * j) = 0 then cf N j m + sm N j (N 1 + nI m) - cf N j (m + 1) else 0
def CT (k : Nat) (N : Nat → Int32) (m : Nat) : Int32 := su (cc N m) k
theorem cf_b {N : Nat → Int32} {j : Nat} (e0 : 100 ≤ N 0) (e1 : N 0 ≤ 9999) (hs : ∀ y, 0 ≤ sm N j y ∧ sm N j y ≤ 93) (f0 : 0 ≤ N (17 + 5 * j) ∧ N (17 + 5 * j) < N 0) (g0 : N (19 + 5 * j) = 0) : ∀ m, 0 ≤ cf N j m ∧ cf N j m < N 0
  | 0 => f0
  | m + 1 => by
    have ih := cf_b e0 e1 hs f0 g0 m
    have h := hs (N 1 + nI m)
    unfold cf mn
    rw [if_pos g0]
    clear hs f0 g0
    split <;> grind
def CL (k m : Nat) (A : Nat → Nat → Int32) (R : Nat → Int32) (v : (Nat → Int32) × (Nat → Int32) × (Nat → Int32) × (Nat → Int32) × (Nat → Int32)) : Prop := R 0 = nI k ∧ (∀ j, j < k → v.1 j = A 5 j ∧ v.2.1 j = A 6 j ∧ v.2.2.2.1 j = A 8 j) ∧ ∀ j, j < k → v.2.2.1 j = cf (A 75) j m ∧ v.2.2.2.2 j = A 75 (19 + 5 * j)
theorem lp_hauled {E : ME} {d : Nat} {A A0 : Nat → Nat → Int32} {B : Nat → Nat → Int64} {K : MK} {k t m : Nat} {R : Nat → Int32} {v : (Nat → Int32) × (Nat → Int32) × (Nat → Int32) × (Nat → Int32) × (Nat → Int32)} {y : Int32} (hm : hM k t (A 75)) (h : rNow A) (hv : CL k m A R v) (hy : y = A 75 1 + nI m) (hK : ∀ F, (∀ j, j < k → F j = cf (A 75) j (m + 1)) → K (some (.int (CT k (A 75) m))) (SH, va_up (LA A R v) 38 F, B)) : ∀ p : Nat × Option Value × (Nat → Int32), (p.1 ≤ k ∧ (∀ j, j < p.1 → p.2.2 j = cf (A 75) j (m + 1)) ∧ ∀ j, p.1 ≤ j → p.2.2 j = v.2.2.1 j) → mSem E (d + 4) nX1_goHauledYear (SH, A0, B) 0 0 K 5 [some (.ref 35), some (.ref 2), some (.int y), some (.int (su (cc (A 75) m) p.1)), some (.int (nI p.1)), p.2.1] [] (SH, va_up (LA A R v) 38 p.2.2, B) := by
  refine mSem_loop (σ := Nat × Option Value × (Nat → Int32)) (h0 := (SH, A0, B)) MX1_goHauledYear rfl aX1_goHauledYear 300 [5] (fun p => [some (.ref 35), some (.ref 2), some (.int y), some (.int (su (cc (A 75) m) p.1)), some (.int (nI p.1)), p.2.1]) (fun p => (SH, va_up (LA A R v) 38 p.2.2, B)) (fun p => p.1 ≤ k ∧ (∀ j, j < p.1 → p.2.2 j = cf (A 75) j (m + 1)) ∧ ∀ j, p.1 ≤ j → p.2.2 j = v.2.2.1 j) (fun p => k - p.1) ?_
  rintro ⟨j, x, F⟩ ⟨hj, h1, h2⟩ cl ax hcl hax hlp
  have hj : j ≤ k := hj
  have h1 : ∀ i, i < j → F i = cf (A 75) i (m + 1) := h1
  have h2 : ∀ i, j ≤ i → F i = v.2.2.1 i := h2
  have hh := rH h hm.2.2.1 hm.1
  have k12 := hm.1
  obtain ⟨v1, v2, v3⟩ := hv
  have e8 : (nI j).toNatClampNeg = j := nI_clamp (by omega)
  refine ⟨fun (c0 : R 0 ≤ nI j) => ?_, fun (c0 : ¬ R 0 ≤ nI j) => ?_⟩
  · rw [v1, nI_leI (by omega) (by omega)] at c0
    have : j = k := by omega
    subst this
    exact hK F h1
  · rw [v1, nI_leI (by omega) (by omega)] at c0
    have hjk : j < k := by omega
    have hv : vp_in (nI j) 12 := vp_in_nI (by omega) (by decide)
    have fj : F j = cf (A 75) j m := (h2 j (Nat.le_refl _)).trans (v3 j hjk).1
    have gj := (v3 j hjk).2
    refine ⟨hv, ?_⟩
    refine ⟨fun (c1 : ¬ v.2.2.2.2 (nI j).toNatClampNeg = 0) => ?_, fun (c1 : v.2.2.2.2 (nI j).toNatClampNeg = 0) => ?_⟩
    · rw [e8, gj] at c1
      have this : ax 5 [some (.ref 35), some (.ref 2), some (.int y), some (.int (su (cc (A 75) m) (j + 1))), some (.int (nI (j + 1))), x] [] (SH, va_up (LA A R v) 38 F, B) := hlp (j + 1, x, F) ⟨by show j + 1 ≤ k; omega, fun i hi => by
        have hi : i < j + 1 := hi
        show F i = _
        by_cases e : i = j
        · subst e; rw [fj, cf, if_neg c1]
        · exact h1 i (by omega), fun i hi => h2 i (by have hi : j + 1 ≤ i := hi; omega)⟩ (by show k - (j + 1) < k - j; omega)
      rw [← nI_1, su, show cc (A 75) m j = 0 by unfold cc; rw [if_neg c1], show su (cc (A 75) m) j + 0 = su (cc (A 75) m) j by clear hcl hax hlp hK; grind] at this
      exact this
    · rw [e8, gj] at c1
      refine ⟨hv, ?_⟩
      have q := hh j hjk
      refine hcl _ _ _ _ (w_strideOf35 (A := va_up (LA A R v) 38 F) j (by omega) (show 0 ≤ v.2.1 j by rw [(v2 j hjk).2.1, q.1.2.1]; exact q.2.2.1.1) (show v.2.1 j ≤ 8 by rw [(v2 j hjk).2.1, q.1.2.1]; exact q.2.2.1.2) (fun _ => ?_) (fun (c3 : ¬ v.2.2.2.2 j = 0) => absurd (by rw [gj]; exact c1) c3))
      have es : SD (A 2 1) (A 3) (v.1 j) (v.2.1 j) (v.2.2.2.1 j) y = sm (A 75) j (A 75 1 + nI m) := by
        rw [(v2 j hjk).1, (v2 j hjk).2.1, (v2 j hjk).2.2, hy, smX h hm.2.2.1 hm.1 hjk]
      have ed : A 2 0 = A 75 0 := h.1.1.1
      refine ⟨hv, ?_⟩
      refine ⟨hv, ?_⟩
      have en : cf (A 75) j (m + 1) = mn (cf (A 75) j m + sm (A 75) j (A 75 1 + nI m)) (A 75 0 - 1) := by
        rw [cf, if_pos c1]
      have this : ∀ x, ax 5 [some (.ref 35), some (.ref 2), some (.int y), some (.int (su (cc (A 75) m) (j + 1))), some (.int (nI (j + 1))), x] [] (SH, va_up (LA A R v) 38 (upd F (nI j).toNatClampNeg (mn (F (nI j).toNatClampNeg + SD (A 2 1) (A 3) (v.1 j) (v.2.1 j) (v.2.2.2.1 j) y) (A 2 0 - 1))), B) := fun x => hlp (j + 1, x, _) ⟨by show j + 1 ≤ k; omega, fun i hi => by
        have hi : i < j + 1 := hi
        show upd F _ _ i = _
        rw [e8]
        by_cases e : i = j
        · subst e; rw [ud_s, fj, es, ed, en]
        · rw [ud_n e]; exact h1 i (by omega), fun i hi => by
        have hi : j + 1 ≤ i := hi
        show upd F _ _ i = _
        rw [e8, ud_n (by omega)]; exact h2 i (by omega)⟩ (by show k - (j + 1) < k - j; omega)
      rw [← nI_1, su, show cc (A 75) m j = F (nI j).toNatClampNeg + SD (A 2 1) (A 3) (v.1 j) (v.2.1 j) (v.2.2.2.1 j) y - upd F (nI j).toNatClampNeg (mn (F (nI j).toNatClampNeg + SD (A 2 1) (A 3) (v.1 j) (v.2.1 j) (v.2.2.2.1 j) y) (A 2 0 - 1)) (nI j).toNatClampNeg by
        unfold cc
        rw [if_pos c1, ud_s, e8, fj, es, ed, en], ← up_up (F := F)] at this
      exact this _
theorem w_hauled {E : ME} {d : Nat} {A : Nat → Nat → Int32} {B : Nat → Nat → Int64} {K : MK} {k t m : Nat} {R : Nat → Int32} {v : (Nat → Int32) × (Nat → Int32) × (Nat → Int32) × (Nat → Int32) × (Nat → Int32)} {y : Int32} (hm : hM k t (A 75)) (h : rNow A) (hv : CL k m A R v) (hy : y = A 75 1 + nI m) (hK : ∀ v, CL k (m + 1) A R v → K (some (.int (CT k (A 75) m))) (SH, LA A R v, B)) : mCall E (d + 4) nX1_goHauledYear [.ref 35, .ref 2, .int y] (SH, LA A R v, B) K := by
  refine mCall_sem MX1_goHauledYear rfl rfl (Or.inl ⟨rfl, rfl, rfl⟩) rfl (mSem_wp MX1_goHauledYear rfl aX1_goHauledYear 300 [5] (fun cl ax hcl hax => ?_))
  have e : va_up (LA A R v) 38 v.2.2.1 = LA A R v := by
    funext q
    unfold va_up
    split
    · rename_i c; rw [c]; rfl
    · rfl
  have e2 : ∀ F, va_up (LA A R v) 38 F = LA A R (v.1, v.2.1, F, v.2.2.2.1, v.2.2.2.2) := fun F => by
    rw [← LA_up (A := A) (R := R) (F := F) (G := v.2.2.2.2) (v := v)]
    funext q
    by_cases c : q = 40
    · subst c; rfl
    · rw [up_n c]
  have this := lp_hauled (E := E) (d := d) (A0 := LA A R v) (B := B) (K := K) hm h hv hy (fun F hF => by
    rw [e2]
    exact hK _ ⟨hv.1, hv.2.1, fun j hj => ⟨hF j hj, (hv.2.2 j hj).2⟩⟩) (0, none, v.2.2.1) ⟨by omega, fun q hq => absurd hq (by simp), fun _ _ => rfl⟩
  rw [e] at this
  exact hax _ _ _ _ this
theorem lp_X8_cost {E : ME} {d : Nat} {A : Nat → Nat → Int32} {B : Nat → Nat → Int64} {K : MK} {k t n : Nat} {R : Nat → Int32} (hn : n ≤ 1000) (hm : hM k t (A 75)) (h : rNow A) (hK : ∀ v, K (some (.int (su (CT k (A 75)) n))) (SH, LA A R v, B)) : ∀ v : Nat × (Nat → Int32) × (Nat → Int32) × (Nat → Int32) × (Nat → Int32) × (Nat → Int32), (v.1 ≤ n ∧ CL k v.1 A R v.2) → mSem E (d + 5) nX8_cost (SH, A, B) 0 0 K 50 [some (.ref 0), some (.int (nI n)), some (.int (su (CT k (A 75)) v.1)), some (.int (nI v.1))] [] (SH, LA A R v.2, B) := by
  refine mSem_loop (σ := Nat × (Nat → Int32) × (Nat → Int32) × (Nat → Int32) × (Nat → Int32) × (Nat → Int32)) (h0 := (SH, A, B)) MX8_cost rfl aX8_cost 300 [50] (fun v => [some (.ref 0), some (.int (nI n)), some (.int (su (CT k (A 75)) v.1)), some (.int (nI v.1))]) (fun v => (SH, LA A R v.2, B)) (fun v => v.1 ≤ n ∧ CL k v.1 A R v.2) (fun v => n - v.1) ?_
  rintro ⟨j, v⟩ ⟨hj, hY⟩ cl ax hcl hax hlp
  have hj : j ≤ n := hj
  have hY : CL k j A R v := hY
  refine ⟨fun (c0 : nI n ≤ nI j) => ?_, fun (c0 : ¬ nI n ≤ nI j) => ?_⟩
  · rw [nI_leI (by omega) (by omega)] at c0
    have : j = n := by omega
    subst this
    exact hK v
  · rw [nI_leI (by omega) (by omega)] at c0
    refine hcl _ _ _ _ (w_hauled hm h hY (show A 2 2 + nI j = _ by rw [h.1.1.2.2]) (fun v2 h2 => ?_))
    have this : ax 50 [some (.ref 0), some (.int (nI n)), some (.int (su (CT k (A 75)) (j + 1))), some (.int (nI (j + 1)))] [] (SH, LA A R v2, B) := hlp (j + 1, v2) ⟨by show j + 1 ≤ n; omega, h2⟩ (by show n - (j + 1) < n - j; omega)
    rw [← nI_1, su] at this
    exact this
/-- the model: houses drawn back before the year goes -/
def lim (N : Nat → Int32) (j : Nat) : Int32 := N 0 - 1 - sm N j (N 1)
def ac (N : Nat → Int32) (j : Nat) : Int32 := if ¬ N (19 + 5 * j) = 1 ∧ lim N j < N (17 + 5 * j) then N (17 + 5 * j) - lim N j else 0
def aj (N : Nat → Int32) (j : Nat) : Int32 := if ¬ N (19 + 5 * j) = 1 ∧ lim N j < N (17 + 5 * j) then lim N j else N (17 + 5 * j)
def kI (k : Nat) (N0 : Nat → Int32) (j : Nat) (N : Nat → Int32) : Prop := j ≤ k ∧ (∀ q, (∀ i, i < j → q ≠ 17 + 5 * i) → N q = N0 q) ∧ ∀ i, i < j → N (17 + 5 * i) = aj N0 i
theorem lp_draw {E : ME} {d : Nat} {A A0 : Nat → Nat → Int32} {B : Nat → Nat → Int64} {K : MK} {k t : Nat} {N0 : Nat → Int32} {c0 : Int32} {n i : Int32} (hm : hM k t N0) (hK : ∀ N x4 x5 x6, kI k N0 k N → mSem E (d + 8) nX9_cost (SH, A0, B) 0 0 K 143 [some (.ref 74), some (.int n), some (.int (c0 + su (ac N0) k)), some (.int i), x4, x5, x6] [] (SH, va_up A 75 N, B)) : ∀ p : Nat × Option Value × Option Value × (Nat → Int32), kI k N0 p.1 p.2.2.2 → mSem E (d + 8) nX9_cost (SH, A0, B) 0 0 K 55 [some (.ref 74), some (.int n), some (.int (c0 + su (ac N0) p.1)), some (.int i), some (.int (nI p.1)), p.2.1, p.2.2.1] [] (SH, va_up A 75 p.2.2.2, B) := by
  refine mSem_loop (σ := Nat × Option Value × Option Value × (Nat → Int32)) (h0 := (SH, A0, B)) MX9_cost rfl aX9_cost 300 [55, 143] (fun p => [some (.ref 74), some (.int n), some (.int (c0 + su (ac N0) p.1)), some (.int i), some (.int (nI p.1)), p.2.1, p.2.2.1]) (fun p => (SH, va_up A 75 p.2.2.2, B)) (fun p => kI k N0 p.1 p.2.2.2) (fun p => k - p.1) ?_
  rintro ⟨j, x5, x6, N⟩ hI cl ax hcl hax hlp
  have hI : kI k N0 j N := hI
  obtain ⟨hj, h1, h2⟩ := hI
  have k12 := hm.1
  refine ⟨vl 3 rfl rfl, ?_⟩
  refine ⟨fun (c : N 3 ≤ nI j) => ?_, fun (c : ¬ N 3 ≤ nI j) => ?_⟩
  · rw [h1 3 (by omega), hm.2.2.1, nI_leI (by omega) (by omega)] at c
    have : j = k := by omega
    subst this
    exact hax _ _ _ _ (hK N _ _ _ ⟨hj, h1, h2⟩)
  · rw [h1 3 (by omega), hm.2.2.1, nI_leI (by omega) (by omega)] at c
    have hjk : j < k := by omega
    have hb := (hm.2.2.2.2.1 j hjk).1
    have f2 := h1 (17 + 5 * j) (by omega)
    have f4 := h1 (19 + 5 * j) (by omega)
    have l1 := h1 (16 + 5 * j) (by omega)
    have i2 : (15 : Int32) + 5 * nI j + 2 = nI (17 + 5 * j) := hIx j 2 _ (by omega)
    have v2 : vp_in (15 + 5 * nI j + 2) 135 := by rw [i2]; exact vp_in_nI (N := 135) (by omega) (by decide)
    have k2 : ((15 : Int32) + 5 * nI j + 2).toNatClampNeg = 17 + 5 * j := by rw [i2]; exact nI_clamp (by omega)
    have es : N 0 - 1 - sm N j (N 1) = lim N0 j := by
      unfold lim
      rw [h1 0 (by omega), h1 1 (by omega), sm_c (h1 2 (by omega)) (fun q hq => h1 (6 + q) (by omega)) (h1 _ (by omega)) l1 (h1 _ (by omega)) hb.1 hb.2]
    have no : ¬ (¬ N0 (19 + 5 * j) = 1 ∧ lim N0 j < N0 (17 + 5 * j)) → ∀ x5 x6, ax 55 [some (.ref 74), some (.int n), some (.int (c0 + su (ac N0) j)), some (.int i), some (.int (nI j + 1)), x5, x6] [] (SH, va_up A 75 N, B) := fun q x5 x6 => by
      have this : ax 55 [some (.ref 74), some (.int n), some (.int (c0 + su (ac N0) (j + 1))), some (.int i), some (.int (nI (j + 1))), x5, x6] [] (SH, va_up A 75 N, B) := hlp (j + 1, x5, x6, N) ⟨by show j + 1 ≤ k; omega, fun p hp => h1 p (fun i hi => hp i (by show i < j + 1; omega)), fun i hi => by
        have hi : i < j + 1 := hi
        show N (17 + 5 * i) = _
        by_cases e : i = j
        · subst e; rw [f2, aj, if_neg q]
        · exact h2 i (by omega)⟩ (by show k - (j + 1) < k - j; omega)
      rw [su, show ac N0 j = 0 by unfold ac; rw [if_neg q], show su (ac N0) j + 0 = su (ac N0) j by clear hcl hax hlp hK; grind, ← nI_1] at this
      exact this
    refine ⟨vl 0 rfl rfl, ?_⟩
    refine hcl _ _ _ _ (w_stepNow (A := va_up A 75 N) j (by omega) (show 0 ≤ N (16 + 5 * j) by rw [l1]; exact hb.1) (show N (16 + 5 * j) ≤ 8 by rw [l1]; exact hb.2) ?_)
    refine hcl _ _ _ _ (w_isGone (A := va_up A 75 N) j (by omega) (fun (c1 : N (19 + 5 * j) = 1) => ?_) (fun (c1 : ¬ N (19 + 5 * j) = 1) => ?_))
    · refine ⟨fun _ => ?_, fun h9 => absurd h9 (by decide)⟩
      rw [f4] at c1
      exact no (fun q => q.1 c1) _ _
    · refine ⟨fun h9 => absurd h9 (by decide), fun _ => ?_⟩
      rw [f4] at c1
      refine ⟨v2, ?_⟩
      refine ⟨fun (c2 : N (15 + 5 * nI j + 2).toNatClampNeg ≤ N 0 - 1 - sm N j (N 1)) => ?_, fun (c2 : ¬ N (15 + 5 * nI j + 2).toNatClampNeg ≤ N 0 - 1 - sm N j (N 1)) => ?_⟩
      · rw [k2, es, f2] at c2
        exact no (fun q => by have := q.2; clear hcl hax hlp hK no; grind) _ _
      · refine ⟨v2, ?_⟩
        refine ⟨v2, ?_⟩
        have c3 := c2
        rw [k2, es, f2] at c3
        have q : ¬ N0 (19 + 5 * j) = 1 ∧ lim N0 j < N0 (17 + 5 * j) := ⟨c1, by clear hcl hax hlp hK no; grind⟩
        have this : ∀ x5 x6, ax 55 [some (.ref 74), some (.int n), some (.int (c0 + su (ac N0) (j + 1))), some (.int i), some (.int (nI (j + 1))), x5, x6] [] (SH, va_up A 75 (upd N (15 + 5 * nI j + 2).toNatClampNeg (N 0 - 1 - sm N j (N 1))), B) := fun x5 x6 => hlp (j + 1, x5, x6, _) ⟨by show j + 1 ≤ k; omega, fun p hp => by
          show upd N _ _ p = N0 p
          rw [ud_n (by rw [k2]; exact hp j (by show j < j + 1; omega))]
          exact h1 p (fun i hi => hp i (by show i < j + 1; omega)), fun i hi => by
          have hi : i < j + 1 := hi
          show upd N _ _ (17 + 5 * i) = _
          rw [k2]
          by_cases e : i = j
          · subst e; rw [ud_s, es, aj, if_pos q]
          · rw [ud_n (by omega)]; exact h2 i (by omega)⟩ (by show k - (j + 1) < k - j; omega)
        rw [su, show c0 + (su (ac N0) j + ac N0 j) = c0 + su (ac N0) j + (N (15 + 5 * nI j + 2).toNatClampNeg - (N 0 - 1 - sm N j (N 1))) by
          unfold ac
          rw [if_pos q, es, k2, f2]
          clear hcl hax hlp hK no
          grind, ← nI_1, ← up_up (F := N)] at this
        exact this _ _
def CR (k i : Nat) (N0 N : Nat → Int32) : Prop := N 1 = N0 1 + nI i ∧ (∀ q, cst q → N q = N0 q) ∧ ∀ j, j < k → N (17 + 5 * j) = cf N0 j i ∧ N (19 + 5 * j) = N0 (19 + 5 * j)
def bN (k : Nat) (N : Nat → Int32) : Prop := 100 ≤ N 0 ∧ N 0 ≤ 9999 ∧ ∀ j, j < k → (∀ y, 0 ≤ sm N j y ∧ sm N j y ≤ 93) ∧ (N (19 + 5 * j) = 0 → 0 ≤ N (17 + 5 * j) ∧ N (17 + 5 * j) < N 0)
theorem CR_hM {k t i : Nat} {N0 N : Nat → Int32} (hm : hM k t N0) (h : CR k i N0 N) : hM k t N := by
  obtain ⟨hk, ht, n3, n4, hh, hd⟩ := hm
  have h2 := h.2.1
  refine ⟨hk, ht, ?_, ?_, fun j hj => ⟨?_, ?_⟩, fun i hi => ?_⟩
  · rw [h2 3 ⟨by omega, fun _ _ => by omega, fun _ _ => by omega⟩]; exact n3
  · rw [h2 4 ⟨by omega, fun _ _ => by omega, fun _ _ => by omega⟩]; exact n4
  · rw [h2 (16 + 5 * j) ⟨by omega, fun _ _ => by omega, fun _ _ => by omega⟩]; exact (hh j hj).1
  · rw [(h.2.2 j hj).2]; exact (hh j hj).2
  · rw [h2 (75 + 2 * i) ⟨by omega, fun _ _ => by omega, fun _ _ => by omega⟩]; exact hd i hi
theorem kI_hM {k t : Nat} {N N1 : Nat → Int32} (hm : hM k t N) (h : kI k N k N1) : hM k t N1 := by
  obtain ⟨hk, ht, n3, n4, hh, hd⟩ := hm
  have h2 := h.2.1
  refine ⟨hk, ht, ?_, ?_, fun j hj => ⟨?_, ?_⟩, fun i hi => ?_⟩
  · rw [h2 3 (by omega)]; exact n3
  · rw [h2 4 (by omega)]; exact n4
  · rw [h2 (16 + 5 * j) (by omega)]; exact (hh j hj).1
  · rw [h2 (19 + 5 * j) (by omega)]; exact (hh j hj).2
  · rw [h2 (75 + 2 * i) (by omega)]; exact hd i hi
theorem CR_sm {k t n : Nat} {N N1 : Nat → Int32} (hm : hM k t N) (h : CR k n N N1) {j : Nat} (hj : j < k) (y : Int32) : sm N1 j y = sm N j y := by
  have h2 := h.2.1
  have hb := (hm.2.2.2.2.1 j hj).1
  have hk := hm.1
  exact sm_c (h2 2 ⟨by omega, fun _ _ => by omega, fun _ _ => by omega⟩) (fun q hq => h2 _ ⟨by omega, fun _ _ => by omega, fun _ _ => by omega⟩) (h2 _ ⟨by omega, fun _ _ => by omega, fun _ _ => by omega⟩) (h2 _ ⟨by omega, fun _ _ => by omega, fun _ _ => by omega⟩) (h2 _ ⟨by omega, fun _ _ => by omega, fun _ _ => by omega⟩) hb.1 hb.2
theorem kI_sm {k t : Nat} {N N1 : Nat → Int32} (hm : hM k t N) (h : kI k N k N1) {j : Nat} (hj : j < k) (y : Int32) : sm N1 j y = sm N j y := by
  have h2 := h.2.1
  have hb := (hm.2.2.2.2.1 j hj).1
  have hk := hm.1
  exact sm_c (h2 2 (by omega)) (fun q hq => h2 _ (by omega)) (h2 _ (by omega)) (h2 _ (by omega)) (h2 _ (by omega)) hb.1 hb.2
theorem hau {f s ed : Int32} (f0 : 0 ≤ f) (f1 : f < ed) (s0 : 0 ≤ s) (s1 : s ≤ 93) (e0 : 100 ≤ ed) (e1 : ed ≤ 9999) : ((if ed - 1 - s < f then ed - 1 - s else f) + s < ed) ∧ (if ed - 1 - s < f then ed - 1 - s else f) + s = mn (f + s) (ed - 1) ∧ (if ed - 1 - s < f then f - (ed - 1 - s) else 0) = f + s - mn (f + s) (ed - 1) := by
  unfold mn
  by_cases c : ed - 1 - s < f
  · have c2 : ed - 1 < f + s := by grind
    rw [if_pos c, if_pos c, if_pos c2]
    refine ⟨by grind, by grind, by grind⟩
  · have c2 : ¬ ed - 1 < f + s := by grind
    rw [if_neg c, if_neg c, if_neg c2]
    refine ⟨by grind, by grind, by grind⟩
theorem CR_lim {k t i : Nat} {N0 N : Nat → Int32} (hm : hM k t N0) (h : CR k i N0 N) {j : Nat} (hj : j < k) : lim N j = N0 0 - 1 - sm N0 j (N0 1 + nI i) := by
  unfold lim
  rw [h.2.1 0 ⟨by omega, fun _ _ => by omega, fun _ _ => by omega⟩, CR_sm hm h hj, h.1]
theorem CR_ac {k t i : Nat} {N0 N : Nat → Int32} (hm : hM k t N0) (hb : bN k N0) (h : CR k i N0 N) : su (ac N) k = CT k N0 i := by
  unfold CT
  refine su_c k (fun j hj => ?_)
  have hq := hb.2.2 j hj
  unfold ac cc
  rw [CR_lim hm h hj, (h.2.2 j hj).1, (h.2.2 j hj).2]
  rcases (hm.2.2.2.2.1 j hj).2 with g | g
  · have cb := cf_b hb.1 hb.2.1 hq.1 (hq.2 g) g i
    have q := hau cb.1 cb.2 (hq.1 (N0 1 + nI i)).1 (hq.1 (N0 1 + nI i)).2 hb.1 hb.2.1
    rw [if_pos g, cf, if_pos g, ← q.2.2]
    have : ¬ N0 (19 + 5 * j) = 1 := by rw [g]; decide
    by_cases c : N0 0 - 1 - sm N0 j (N0 1 + nI i) < cf N0 j i
    · rw [if_pos ⟨this, c⟩, if_pos c]
    · rw [if_neg (fun r => c r.2), if_neg c]
  · rw [if_neg (fun r => r.1 g), if_neg (by rw [g]; decide)]
theorem CR_step {k t i : Nat} {N0 N N1 N2 : Nat → Int32} (hm : hM k t N0) (hb : bN k N0) (h : CR k i N0 N) (h1 : kI k N k N1) (h2 : YR k t 1 N1 N2) : CR k (i + 1) N0 N2 := by
  have k12 := hm.1
  have hmN := CR_hM hm h
  have n1 : ∀ q, (∀ i, i < k → q ≠ 17 + 5 * i) → N1 q = N q := h1.2.1
  refine ⟨?_, fun q hq => ?_, fun j hj => ?_⟩
  · rw [h2.1, n1 1 (by omega), h.1, ← nI_1 i]
    show N0 1 + nI i + 1 = N0 1 + (nI i + 1)
    grind
  · rw [h2.2.1 q hq, n1 q (fun i hi => (hq.2.1 i (by omega)).1), h.2.1 q hq]
  · have p := h2.2.2.1 j hj
    have hq := hb.2.2 j hj
    have e1 : N1 1 + nI 0 = N0 1 + nI i := by
      rw [n1 1 (by omega), h.1]
      show N0 1 + nI i + 0 = _
      grind
    have p : (N2 (17 + 5 * j), N2 (19 + 5 * j)) = st1 (N0 0) (sm N0 j (N0 1 + nI i)) (aj N j, N0 (19 + 5 * j)) := by
      rw [p]
      unfold TR
      show st1 (N1 0) (sm N1 j (N1 1 + nI 0)) (N1 (17 + 5 * j), N1 (19 + 5 * j)) = _
      rw [e1, n1 0 (by omega), kI_sm hmN h1 hj, CR_sm hm h hj, h1.2.2 j hj, n1 (19 + 5 * j) (by omega), (h.2.2 j hj).2, h.2.1 0 ⟨by omega, fun _ _ => by omega, fun _ _ => by omega⟩]
    have pa : aj N j = if ¬ N0 (19 + 5 * j) = 1 ∧ N0 0 - 1 - sm N0 j (N0 1 + nI i) < cf N0 j i then N0 0 - 1 - sm N0 j (N0 1 + nI i) else cf N0 j i := by
      unfold aj
      rw [CR_lim hm h hj, (h.2.2 j hj).1, (h.2.2 j hj).2]
    rcases (hm.2.2.2.2.1 j hj).2 with g | g
    · have cb := cf_b hb.1 hb.2.1 hq.1 (hq.2 g) g i
      have q := hau cb.1 cb.2 (hq.1 (N0 1 + nI i)).1 (hq.1 (N0 1 + nI i)).2 hb.1 hb.2.1
      have : ¬ N0 (19 + 5 * j) = 1 := by rw [g]; decide
      have pb : aj N j = if N0 0 - 1 - sm N0 j (N0 1 + nI i) < cf N0 j i then N0 0 - 1 - sm N0 j (N0 1 + nI i) else cf N0 j i := by
        rw [pa]
        by_cases c : N0 0 - 1 - sm N0 j (N0 1 + nI i) < cf N0 j i
        · rw [if_pos ⟨this, c⟩, if_pos c]
        · rw [if_neg (fun r => c r.2), if_neg c]
      unfold st1 at p
      rw [if_pos g, pb, if_pos q.1, q.2.1] at p
      refine ⟨?_, ?_⟩
      · rw [cf, if_pos g]
        exact congrArg Prod.fst p
      · rw [g]
        exact congrArg Prod.snd p
    · have z : ¬ N0 (19 + 5 * j) = 0 := by rw [g]; decide
      unfold st1 at p
      rw [if_neg z, pa, if_neg (fun r => r.1 g)] at p
      refine ⟨?_, ?_⟩
      · rw [cf, if_neg z]
        exact congrArg Prod.fst p
      · exact congrArg Prod.snd p
theorem lp_X9_cost {E : ME} {d : Nat} {A A0 : Nat → Nat → Int32} {B : Nat → Nat → Int64} {K : MK} {k t n : Nat} {N0 : Nat → Int32} (hn : n ≤ 1000) (hm : hM k t N0) (hb : bN k N0) (hK : ∀ N R2, (∀ q, q < 135 → R2 q = A 77 q) → K (some (.int (su (CT k N0) n))) (SH, va_up (va_up A 75 N) 75 R2, B)) : ∀ (b j : Nat) (x4 x5 x6 : Option Value) (N : Nat → Int32), n - j < b → j ≤ n → CR k j N0 N → mSem E (d + 8) nX9_cost (SH, A0, B) 0 0 K 47 [some (.ref 74), some (.int (nI n)), some (.int (su (CT k N0) j)), some (.int (nI j)), x4, x5, x6] [] (SH, va_up A 75 N, B) := by
  intro b
  induction b with
  | zero => intro j _ _ _ _ hb; omega
  | succ b ih =>
    intro j x4 x5 x6 N hjb hj hY
    refine mSem_wp MX9_cost rfl aX9_cost 300 [47, 55] (fun cl ax hcl hax => ?_)
    refine ⟨fun (c0 : nI n ≤ nI j) => ?_, fun (c0 : ¬ nI n ≤ nI j) => ?_⟩
    · rw [nI_leI (by omega) (by omega)] at c0
      have : j = n := by omega
      subst this
      refine hcl _ _ _ _ (w_putBack (A := va_up A 75 N) (fun R2 h2 => ?_))
      exact hK N R2 h2
    · rw [nI_leI (by omega) (by omega)] at c0
      have hmN := CR_hM hm hY
      have this := lp_draw (E := E) (d := d) (A := A) (A0 := A0) (B := B) (K := K) (c0 := su (CT k N0) j) (n := nI n) (i := nI j) hmN (fun N1 y4 y5 y6 h1 => ?_) (0, x5, x6, N) ⟨by omega, fun _ _ => rfl, fun i hi => absurd hi (by simp)⟩
      · have e : su (CT k N0) j + su (ac N) (0, x5, x6, N).1 = su (CT k N0) j := by
          show su (CT k N0) j + 0 = _
          clear hcl hax this hK ih
          grind
        rw [e] at this
        exact hax _ _ _ _ this
      · refine mSem_wp MX9_cost rfl aX9_cost 300 [47] (fun cl ax hcl hax => ?_)
        refine hcl _ _ _ _ (w_yearsGo (n := 1) (A := va_up A 75 N1) (by omega) (kI_hM hmN h1) (fun N2 h2 => ?_))
        have this := ih (j + 1) y4 y5 y6 N2 (by omega) (by omega) (CR_step hm hb hY h1 h2)
        rw [← nI_1, su, ← CR_ac hm hb hY, ← up_up (F := N1)] at this
        exact hax _ _ _ _ this
theorem op_cost {E : ME} {u : Int32} {A : Nat → Nat → Int32} {B : Nat → Nat → Int64} (h : rAll A B) : rOp E nX8_cost nX9_cost [.int u] A B := by
  obtain ⟨k, t, hm, hx, hx2⟩ := hM_of h.1
  have hy : A 2 2 = A 75 1 := h.1.1.1.2.2
  have hh := rH h.1 hm.2.2.1 hm.1
  have hb : bN k (A 75) := ⟨h.1.1.2.2.1.1, h.1.1.2.2.1.2, fun j hj => ⟨sm_bX h.1 hm.2.2.1 hm.1 hj, fun g => by
    have q := hh j hj
    refine ⟨q.2.2.2.1.1, ?_⟩
    rcases q.2.2.2.2.2 with r | r
    · exact r.2
    · rw [g] at r; exact absurd r (by decide)⟩⟩
  refine rOp_of (fun K hK => ?_)
  refine mCall_sem MX8_cost rfl rfl (Or.inl ⟨rfl, rfl, rfl⟩) rfl (mSem_wp MX8_cost rfl aX8_cost 300 [50] (fun cl ax hcl hax => ?_))
  refine hcl _ _ _ _ (w_X8 (fun b1 b2 => ?_) (fun b0 => ?_))
  · refine ⟨fun _ => ?_, fun h9 => absurd h9 (by decide)⟩
    obtain ⟨n, hn, rfl⟩ := ix_le 60 (by grind) b2 rfl
    refine hcl _ _ _ _ (w_X8_isPast (y := A 75 1) hy (fun c => ?_) (fun c => ?_))
    · refine ⟨fun h9 => absurd h9 (by decide), fun _ => ?_⟩
      refine hcl _ _ _ _ (w_X8_refuse 4 (by decide) (by decide) ?_)
      refine hK _ _ ?_
      clear hcl hax
      clear cl ax
      refine mCall_k (fun K hK => ?_)
      refine mCall_sem MX9_cost rfl rfl (Or.inl ⟨rfl, rfl, rfl⟩) rfl (mSem_wp MX9_cost rfl aX9_cost 300 [] (fun cl ax hcl hax => ?_))
      refine hcl _ _ _ _ (w_X9 (fun _ _ => ?_) (fun c0 => absurd (And.intro b1 b2) c0))
      refine ⟨fun _ => ?_, fun h9 => absurd h9 (by decide)⟩
      refine hcl _ _ _ _ (w_X9_isTooLate (y := A 75 1) rfl (fun _ => ?_) (fun c0 => absurd c c0))
      refine ⟨fun h9 => absurd h9 (by decide), fun _ => ?_⟩
      exact hcl _ _ _ _ (w_X9_finding 4 (by decide) (by decide) (hK _ _ (rEnd_cnt h (by decide))))
    · refine ⟨fun _ => ?_, fun h9 => absurd h9 (by decide)⟩
      refine hcl _ _ _ _ (w_takeL hm h.1 hx (fun R w hw => ?_))
      refine hax _ _ _ _ (lp_X8_cost (n := n) (by omega) hm h.1 (fun w2 => ?_) (0, w) ⟨by omega, (hw 4095).1, (hw 4095).2.1, fun j hj => ?_⟩)
      · refine hK _ _ ?_
        clear hcl hax
        clear cl ax
        refine mCall_k (fun K hK => ?_)
        refine mCall_sem MX9_cost rfl rfl (Or.inl ⟨rfl, rfl, rfl⟩) rfl (mSem_wp MX9_cost rfl aX9_cost 300 [47] (fun cl ax hcl hax => ?_))
        refine hcl _ _ _ _ (w_X9 (fun _ _ => ?_) (fun c0 => absurd (And.intro b1 b2) c0))
        refine ⟨fun _ => ?_, fun h9 => absurd h9 (by decide)⟩
        refine hcl _ _ _ _ (w_X9_isTooLate (y := A 75 1) rfl (fun c0 => absurd c0 c) (fun _ => ?_))
        refine ⟨fun _ => ?_, fun h9 => absurd h9 (by decide)⟩
        refine hcl _ _ _ _ (w_copy75_77 (A := LA A R w2) (fun R1 h1 => ?_))
        have e : va_up (va_up (LA A R w2) 77 R1) 75 (A 75) = va_up (LA A R w2) 77 R1 := by
          funext q
          unfold va_up
          split
          · rename_i c; rw [c]; rfl
          · rfl
        have this := lp_X9_cost (E := E) (d := 4) (K := K) (A := va_up (LA A R w2) 77 R1) (A0 := LA A R w2) (B := B) (n := n) (by omega) hm hb (fun N R2 h2 => ?_) (n + 1) 0 none none none (A 75) (by omega) (by omega) ⟨by show A 75 1 = A 75 1 + 0; grind, fun _ _ => rfl, fun _ _ => ⟨rfl, rfl⟩⟩
        · rw [e] at this
          exact hax _ _ _ _ this
        · exact hK _ _ ⟨rfl, rfl, rAll_back h (fun q hq => (h2 q hq).trans (h1 q hq))⟩
      · have q := (hw 4095).2.2 j hj (mb12 j (by have := hm.1; omega))
        exact ⟨congrArg Prod.fst q, congrArg Prod.snd q⟩
  · refine ⟨fun h9 => absurd h9 (by decide), fun _ => ?_⟩
    refine hcl _ _ _ _ (w_X8_refuse 0 (by decide) (by decide) ?_)
    refine hK _ _ ?_
    clear hcl hax
    clear cl ax
    refine mCall_k (fun K hK => ?_)
    refine mCall_sem MX9_cost rfl rfl (Or.inl ⟨rfl, rfl, rfl⟩) rfl (mSem_wp MX9_cost rfl aX9_cost 300 [] (fun cl ax hcl hax => ?_))
    refine hcl _ _ _ _ (w_X9 (fun c1 c2 => absurd (And.intro c1 c2) b0) (fun _ => ?_))
    refine ⟨fun h9 => absurd h9 (by decide), fun _ => ?_⟩
    exact hcl _ _ _ _ (w_X9_finding 0 (by decide) (by decide) (hK _ _ (rEnd_cnt h (by decide))))
