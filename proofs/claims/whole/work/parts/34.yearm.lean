/-! the model's year -/
def hM (k t : Nat) (N : Nat → Int32) : Prop := k ≤ 12 ∧ t ≤ 10 ∧ N 3 = nI k ∧ N 4 = nI t ∧ (∀ j, j < k → (0 ≤ N (16 + 5 * j) ∧ N (16 + 5 * j) ≤ 8) ∧ (N (19 + 5 * j) = 0 ∨ N (19 + 5 * j) = 1)) ∧ ∀ i, i < t → 0 ≤ N (75 + 2 * i) ∧ N (75 + 2 * i) ≤ 8
theorem sm_c {N N' : Nat → Int32} {j : Nat} {y : Int32} (h2 : N' 2 = N 2) (hP : ∀ q, q < 9 → N' (6 + q) = N (6 + q)) (h0 : N' (15 + 5 * j) = N (15 + 5 * j)) (h1 : N' (16 + 5 * j) = N (16 + 5 * j)) (h3 : N' (18 + 5 * j) = N (18 + 5 * j)) (l0 : 0 ≤ N (16 + 5 * j)) (l8 : N (16 + 5 * j) ≤ 8) : sm N' j y = sm N j y := by
  unfold sm
  rw [h0, h1, h3]
  exact SD_c h2 hP l0 l8
def Lm (N : Nat → Int32) (s : Nat → Int32) (i : Nat) : Int32 := Lc (N 0) (s i) (N (17 + 5 * i), N (19 + 5 * i))
def mI (k : Nat) (N0 s : Nat → Int32) (t : Nat × Int32 × Option Value × (Nat → Int32)) : Prop := t.1 ≤ k ∧ (∀ q, (∀ i, i < t.1 → q ≠ 17 + 5 * i ∧ q ≠ 19 + 5 * i) → t.2.2.2 q = N0 q) ∧ (∀ i, i < t.1 → (t.2.2.2 (17 + 5 * i), t.2.2.2 (19 + 5 * i)) = st1 (N0 0) (s i) (N0 (17 + 5 * i), N0 (19 + 5 * i))) ∧ t.2.1 = su (Lm N0 s) t.1
theorem mI_go {k : Nat} {N0 s : Nat → Int32} {j : Nat} {c c' : Int32} {x x' : Option Value} {N N' : Nat → Int32} (h : mI k N0 s (j, c, x, N)) (hj : j < k) (hF : ∀ q, q ≠ 17 + 5 * j → q ≠ 19 + 5 * j → N' q = N q) (he : (N' (17 + 5 * j), N' (19 + 5 * j)) = st1 (N0 0) (s j) (N0 (17 + 5 * j), N0 (19 + 5 * j))) (hc : c' = c + Lm N0 s j) : mI k N0 s (j + 1, c', x', N') := by
  obtain ⟨h1, h2, h3, h4⟩ := h
  refine ⟨hj, fun q hq => ?_, fun i hi => ?_, ?_⟩
  · have := hq j (by simp only; omega)
    exact (hF q this.1 this.2).trans (h2 q (fun i hi => hq i (by simp only at hi ⊢; omega)))
  · by_cases e : i = j
    · subst e
      exact he
    · have := h3 i (by simp only at hi ⊢; omega)
      show (N' (17 + 5 * i), N' (19 + 5 * i)) = _
      rw [hF (17 + 5 * i) (by omega) (by omega), hF (19 + 5 * i) (by omega) (by omega)]
      exact this
  · show c' = su _ (j + 1)
    have h4 : c = su _ j := h4
    rw [su, hc, ← h4]
theorem lp_year {E : ME} {d : Nat} {A A0 : Nat → Nat → Int32} {B : Nat → Nat → Int64} {K : MK} {k t : Nat} {N0 s : Nat → Int32} (hm : hM k t N0) (hs : ∀ i, i < k → s i = sm N0 i (N0 1)) (hK : ∀ x N, mI k N0 s (k, su (Lm N0 s) k, x, N) → mSem E (d + 6) nX9_year (SH, A0, B) 0 0 K 96 [some (.ref 74), some (.int (su (Lm N0 s) k)), some (.int 0), x] [] (SH, va_up A 75 N, B)) : ∀ t, mI k N0 s t → mSem E (d + 6) nX9_year (SH, A0, B) 0 0 K 4 [some (.ref 74), some (.int t.2.1), some (.int (nI t.1)), t.2.2.1] [] (SH, va_up A 75 t.2.2.2, B) := by
  refine mSem_loop (h0 := (SH, A0, B)) MX9_year rfl aX9_year 300 [4, 96] (fun t => [some (.ref 74), some (.int t.2.1), some (.int (nI t.1)), t.2.2.1]) (fun t => (SH, va_up A 75 t.2.2.2, B)) (mI k N0 s) (fun t => k - t.1) ?_
  rintro ⟨j, c, x, N⟩ hI cl ax hcl hax hlp
  obtain ⟨hk, ht, n3, n4, hh, hd⟩ := hm
  have hj : j ≤ k := hI.1
  have n2 : ∀ q, (∀ i, i < j → q ≠ 17 + 5 * i ∧ q ≠ 19 + 5 * i) → N q = N0 q := hI.2.1
  refine ⟨vl 3 rfl rfl, ?_⟩
  refine ⟨fun (c0 : N 3 ≤ nI j) => ?_, fun (c0 : ¬ N 3 ≤ nI j) => ?_⟩
  · rw [n2 3 (by omega), n3, nI_leI (by omega) (by omega)] at c0
    have : j = k := by omega
    subst this
    have h4 : c = su _ j := hI.2.2.2
    subst h4
    exact hax _ _ _ _ (hK x N hI)
  · rw [n2 3 (by omega), n3, nI_leI (by omega) (by omega)] at c0
    have hjk : j < k := by omega
    have f2 := n2 (17 + 5 * j) (by omega)
    have f4 := n2 (19 + 5 * j) (by omega)
    have i2 : (15 : Int32) + 5 * nI j + 2 = nI (17 + 5 * j) := hIx j 2 _ (by omega)
    have i4 : (15 : Int32) + 5 * nI j + 4 = nI (19 + 5 * j) := hIx j 4 _ (by omega)
    have v2 : vp_in (15 + 5 * nI j + 2) 135 := by rw [i2]; exact vp_in_nI (N := 135) (by omega) (by decide)
    have v4 : vp_in (15 + 5 * nI j + 4) 135 := by rw [i4]; exact vp_in_nI (N := 135) (by omega) (by decide)
    have k2 : ((15 : Int32) + 5 * nI j + 2).toNatClampNeg = 17 + 5 * j := by rw [i2]; exact nI_clamp (by omega)
    have k4 : ((15 : Int32) + 5 * nI j + 4).toNatClampNeg = 19 + 5 * j := by rw [i4]; exact nI_clamp (by omega)
    have hb := hh j hjk
    have l1 := n2 (16 + 5 * j) (by omega)
    refine hcl _ _ _ _ (w_isGone j (by omega) (fun (c1 : N (19 + 5 * j) = 1) => ?_) (fun (c1 : ¬ N (19 + 5 * j) = 1) => ?_))
    · refine ⟨fun _ => ?_, fun h9 => absurd h9 (by decide)⟩
      have z : ¬ N0 (19 + 5 * j) = 0 := by rw [f4] at c1; rw [c1]; decide
      have this : ax 4 [some (.ref 74), some (.int c), some (.int (nI j + 1)), some (.int (15 + 5 * nI j))] [] (SH, va_up A 75 N, B) := by
        rw [nI_1]
        refine hlp (j + 1, c, _, N) (mI_go hI hjk (fun q _ _ => rfl) ?_ ?_) (by show k - (j + 1) < k - j; omega)
        · unfold st1
          rw [if_neg z, f2, f4]
        · unfold Lm Lc
          rw [if_neg z]
          grind
      exact this
    · refine ⟨fun h9 => absurd h9 (by decide), fun _ => ?_⟩
      have z : N0 (19 + 5 * j) = 0 := by
        rcases hb.2 with q | q
        · exact q
        · rw [f4] at c1; exact absurd q c1
      have es : sm N j (N 1) = s j := by
        rw [hs j hjk, n2 1 (by omega)]
        exact sm_c (n2 2 (by omega)) (fun q hq => n2 (6 + q) (by omega)) (n2 _ (by omega)) l1 (n2 _ (by omega)) hb.1.1 hb.1.2
      refine ⟨v2, ?_⟩
      refine hcl _ _ _ _ (w_stepNow j (by omega) (show 0 ≤ N (16 + 5 * j) by rw [l1]; exact hb.1.1) (show N (16 + 5 * j) ≤ 8 by rw [l1]; exact hb.1.2) ?_)
      have ef : upd N (15 + 5 * nI j + 2).toNatClampNeg (N (15 + 5 * nI j + 2).toNatClampNeg + sm N j (N 1)) (15 + 5 * nI j + 2).toNatClampNeg = N0 (17 + 5 * j) + s j := by
        rw [ud_s, k2, es, f2]
      have e0 : upd N (15 + 5 * nI j + 2).toNatClampNeg (N (15 + 5 * nI j + 2).toNatClampNeg + sm N j (N 1)) 0 = N0 0 := by
        rw [ud_n (by rw [k2]; omega), n2 0 (by omega)]
      refine ⟨v2, ?_⟩
      refine ⟨v2, ?_⟩
      refine ⟨vl 0 rfl rfl, ?_⟩
      refine ⟨fun c3 => ?_, fun c3 => ?_⟩
      · have c3 : upd N (15 + 5 * nI j + 2).toNatClampNeg (N (15 + 5 * nI j + 2).toNatClampNeg + sm N j (N 1)) (15 + 5 * nI j + 2).toNatClampNeg < upd N (15 + 5 * nI j + 2).toNatClampNeg (N (15 + 5 * nI j + 2).toNatClampNeg + sm N j (N 1)) 0 := c3
        rw [ef, e0] at c3
        have this : ax 4 [some (.ref 74), some (.int c), some (.int (nI j + 1)), some (.int (15 + 5 * nI j))] [] (SH, va_up A 75 (upd N (15 + 5 * nI j + 2).toNatClampNeg (N (15 + 5 * nI j + 2).toNatClampNeg + sm N j (N 1))), B) := by
          rw [nI_1]
          refine hlp (j + 1, c, _, _) (mI_go hI hjk (fun q q1 _ => ud_n (by rw [k2]; exact q1)) ?_ ?_) (by show k - (j + 1) < k - j; omega)
          · unfold st1
            rw [if_pos z, if_pos c3]
            refine Prod.ext ?_ ?_
            · show upd N _ _ (17 + 5 * j) = N0 (17 + 5 * j) + s j
              rw [← ef, k2]
            · show upd N _ _ (19 + 5 * j) = 0
              rw [ud_n (by rw [k2]; omega), f4, z]
          · unfold Lm Lc
            rw [if_pos z, if_pos c3]
            grind
        rw [← up_up (F := N)] at this
        exact this
      · have c3 : ¬ upd N (15 + 5 * nI j + 2).toNatClampNeg (N (15 + 5 * nI j + 2).toNatClampNeg + sm N j (N 1)) (15 + 5 * nI j + 2).toNatClampNeg < upd N (15 + 5 * nI j + 2).toNatClampNeg (N (15 + 5 * nI j + 2).toNatClampNeg + sm N j (N 1)) 0 := c3
        rw [ef, e0] at c3
        refine ⟨vl 0 rfl rfl, ?_⟩
        refine ⟨v2, ?_⟩
        refine ⟨v4, ?_⟩
        have this : ax 4 [some (.ref 74), some (.int (c + 1)), some (.int (nI j + 1)), some (.int (15 + 5 * nI j))] [] (SH, va_up A 75 (upd (upd (upd N (15 + 5 * nI j + 2).toNatClampNeg (N (15 + 5 * nI j + 2).toNatClampNeg + sm N j (N 1))) (15 + 5 * nI j + 2).toNatClampNeg (upd N (15 + 5 * nI j + 2).toNatClampNeg (N (15 + 5 * nI j + 2).toNatClampNeg + sm N j (N 1)) 0)) (15 + 5 * nI j + 4).toNatClampNeg 1), B) := by
          rw [nI_1]
          refine hlp (j + 1, c + 1, _, _) (mI_go hI hjk (fun q q1 q2 => ?_) ?_ ?_) (by show k - (j + 1) < k - j; omega)
          · show upd (upd (upd N _ _) _ _) _ _ q = N q
            rw [ud_n (by rw [k4]; exact q2), ud_n (by rw [k2]; exact q1), ud_n (by rw [k2]; exact q1)]
          · unfold st1
            rw [if_pos z, if_neg c3]
            refine Prod.ext ?_ ?_
            · show upd (upd (upd N _ _) _ _) _ _ (17 + 5 * j) = N0 0
              rw [ud_n (by rw [k4]; omega), ← e0, k2, ud_s]
            · show upd (upd (upd N _ _) _ _) _ _ (19 + 5 * j) = 1
              rw [k4, ud_s]
          · unfold Lm Lc
            rw [if_pos z, if_neg c3]
        have e9 : va_up A 75 (upd (upd (upd N (15 + 5 * nI j + 2).toNatClampNeg (N (15 + 5 * nI j + 2).toNatClampNeg + sm N j (N 1))) (15 + 5 * nI j + 2).toNatClampNeg (upd N (15 + 5 * nI j + 2).toNatClampNeg (N (15 + 5 * nI j + 2).toNatClampNeg + sm N j (N 1)) 0)) (15 + 5 * nI j + 4).toNatClampNeg 1) = va_up (va_up (va_up (va_up A 75 N) 75 (upd N (15 + 5 * nI j + 2).toNatClampNeg (N (15 + 5 * nI j + 2).toNatClampNeg + sm N j (N 1)))) 75 (upd (upd N (15 + 5 * nI j + 2).toNatClampNeg (N (15 + 5 * nI j + 2).toNatClampNeg + sm N j (N 1))) (15 + 5 * nI j + 2).toNatClampNeg (upd N (15 + 5 * nI j + 2).toNatClampNeg (N (15 + 5 * nI j + 2).toNatClampNeg + sm N j (N 1)) 0))) 75 (upd (upd (upd N (15 + 5 * nI j + 2).toNatClampNeg (N (15 + 5 * nI j + 2).toNatClampNeg + sm N j (N 1))) (15 + 5 * nI j + 2).toNatClampNeg (upd N (15 + 5 * nI j + 2).toNatClampNeg (N (15 + 5 * nI j + 2).toNatClampNeg + sm N j (N 1)) 0)) (15 + 5 * nI j + 4).toNatClampNeg 1) := by
          rw [up_up, up_up, up_up]
        rw [e9] at this
        exact this
def dI (t : Nat) (N1 : Nat → Int32) (v : Nat × (Nat → Int32)) : Prop := v.1 ≤ t ∧ (∀ q, (∀ m, m < v.1 → q ≠ 76 + 2 * m) → v.2 q = N1 q) ∧ ∀ m, m < v.1 → v.2 (76 + 2 * m) = N1 (76 + 2 * m) + fl (N1 2) (N1 (6 + (N1 (75 + 2 * m)).toNatClampNeg)) (N1 1)
theorem lp_year2 {E : ME} {d : Nat} {A A0 : Nat → Nat → Int32} {B : Nat → Nat → Int64} {K : MK} {t : Nat} {N1 : Nat → Int32} {c : Int32} {x : Option Value} (ht : t ≤ 10) (n4 : N1 4 = nI t) (hd : ∀ i, i < t → 0 ≤ N1 (75 + 2 * i) ∧ N1 (75 + 2 * i) ≤ 8) (hK : ∀ N, dI t N1 (t, N) → K (some (.int c)) (SH, va_up A 75 (upd N 1 (N 1 + 1)), B)) : ∀ v, dI t N1 v → mSem E (d + 3) nX9_year (SH, A0, B) 0 0 K 96 [some (.ref 74), some (.int c), some (.int (nI v.1)), x] [] (SH, va_up A 75 v.2, B) := by
  refine mSem_loop (h0 := (SH, A0, B)) MX9_year rfl aX9_year 300 [96] (fun v => [some (.ref 74), some (.int c), some (.int (nI v.1)), x]) (fun v => (SH, va_up A 75 v.2, B)) (dI t N1) (fun v => t - v.1) ?_
  rintro ⟨j, N⟩ hI cl ax hcl hax hlp
  have hj : j ≤ t := hI.1
  have n2 : ∀ q, (∀ m, m < j → q ≠ 76 + 2 * m) → N q = N1 q := hI.2.1
  refine ⟨vl 4 rfl rfl, ?_⟩
  refine ⟨fun (c0 : N 4 ≤ nI j) => ?_, fun (c0 : ¬ N 4 ≤ nI j) => ?_⟩
  · rw [n2 4 (by omega), n4, nI_leI (by omega) (by omega)] at c0
    have : j = t := by omega
    subst this
    refine ⟨vl 1 rfl rfl, ?_⟩
    refine ⟨vl 1 rfl rfl, ?_⟩
    have this := hK N hI
    rw [← up_up (F := N)] at this
    exact this
  · rw [n2 4 (by omega), n4, nI_leI (by omega) (by omega)] at c0
    have hjk : j < t := by omega
    have i0 := dIx j _ rfl
    have i1 := dIx1 j _ rfl
    have v0 : vp_in (75 + 2 * nI j) 135 := by rw [i0]; exact vp_in_nI (N := 135) (by omega) (by decide)
    have v1 : vp_in (75 + 2 * nI j + 1) 135 := by rw [i1]; exact vp_in_nI (N := 135) (by omega) (by decide)
    have k0 : ((75 : Int32) + 2 * nI j).toNatClampNeg = 75 + 2 * j := by rw [i0]; exact nI_clamp (by omega)
    have k1 : ((75 : Int32) + 2 * nI j + 1).toNatClampNeg = 76 + 2 * j := by rw [i1]; exact nI_clamp (by omega)
    have hb := hd j hjk
    have l1 := n2 (75 + 2 * j) (by omega)
    obtain ⟨q, hq, eq⟩ := ix_le 8 hb.1 hb.2 rfl
    refine ⟨v1, ?_⟩
    refine ⟨v0, ?_⟩
    refine ⟨vl 1 rfl rfl, ?_⟩
    refine hcl _ _ _ _ (w_iceOf q (by omega) (show N (75 + 2 * nI j).toNatClampNeg = nI q by rw [k0, l1, eq]) ?_)
    refine ⟨v1, ?_⟩
    have this : ax 96 [some (.ref 74), some (.int c), some (.int (nI j + 1)), x] [] (SH, va_up A 75 (upd N (75 + 2 * nI j + 1).toNatClampNeg (N (75 + 2 * nI j + 1).toNatClampNeg + fl (N 2) (N (6 + q)) (N 1))), B) := by
      rw [nI_1]
      refine hlp (j + 1, _) ⟨hjk, fun p hp => ?_, fun m hm => ?_⟩ (by show t - (j + 1) < t - j; omega)
      · show upd N _ _ p = N1 p
        rw [ud_n (by rw [k1]; exact hp j (by simp only; omega)), n2 p (fun m hm => hp m (by simp only at hm ⊢; omega))]
      · show upd N _ _ (76 + 2 * m) = _
        by_cases e : m = j
        · subst e
          rw [k1, ud_s, n2 (76 + 2 * m) (by omega), n2 2 (by omega), n2 1 (by omega), n2 (6 + q) (by omega), eq, nI_clamp (by omega)]
        · rw [ud_n (by rw [k1]; omega)]
          exact hI.2.2 m (by simp only at hm ⊢; omega)
    rw [← up_up (F := N)] at this
    exact this
def cst (q : Nat) : Prop := q ≠ 1 ∧ (∀ j, j < 12 → q ≠ 17 + 5 * j ∧ q ≠ 19 + 5 * j) ∧ ∀ i, i < 10 → q ≠ 76 + 2 * i
def TR (N : Nat → Int32) (j n : Nat) : Int32 × Int32 := tr (N 0) (fun y => sm N j y) (N 1) (N (17 + 5 * j), N (19 + 5 * j)) n
def TD (N : Nat → Int32) (i n : Nat) : Int32 := sa (fun m => fl (N 2) (N (6 + (N (75 + 2 * i)).toNatClampNeg)) (N 1 + nI m)) (N (76 + 2 * i)) n
/-- n years in the model's row -/
def YR (k t n : Nat) (N N' : Nat → Int32) : Prop := N' 1 = N 1 + nI n ∧ (∀ q, cst q → N' q = N q) ∧ (∀ j, j < k → (N' (17 + 5 * j), N' (19 + 5 * j)) = TR N j n) ∧ ∀ i, i < t → N' (76 + 2 * i) = TD N i n
theorem w_year {E : ME} {d : Nat} {A : Nat → Nat → Int32} {B : Nat → Nat → Int64} {K : MK} {k t : Nat} (hm : hM k t (A 75)) (hK : ∀ N, YR k t 1 (A 75) N → K (some (.int (su (fun j => Lc (A 75 0) (sm (A 75) j (A 75 1)) (A 75 (17 + 5 * j), A 75 (19 + 5 * j))) k))) (SH, va_up A 75 N, B)) : mCall E (d + 6) nX9_year [.ref 74] (SH, A, B) K := by
  refine mCall_sem MX9_year rfl rfl (Or.inl ⟨rfl, rfl, rfl⟩) rfl (mSem_wp MX9_year rfl aX9_year 300 [4, 96] (fun cl ax hcl hax => ?_))
  have e : va_up A 75 (A 75) = A := by
    funext q
    unfold va_up
    split
    · rename_i c; rw [c]
    · rfl
  have h0 := hm
  obtain ⟨hk, ht, n3, n4, hh, hd⟩ := hm
  have this := lp_year (E := E) (d := d) (A := A) (A0 := A) (B := B) (K := K) (s := fun j => sm (A 75) j (A 75 1)) h0 (fun i _ => rfl) (fun x N q => ?_) (0, 0, none, A 75) ⟨by omega, fun q _ => rfl, fun i hi => absurd hi (by simp), rfl⟩
  · rw [e] at this
    exact hax _ _ _ _ this
  · have q2 : ∀ p, (∀ i, i < k → p ≠ 17 + 5 * i ∧ p ≠ 19 + 5 * i) → N p = A 75 p := q.2.1
    refine lp_year2 (d := d + 3) (A := A) (N1 := N) ht (by rw [q2 4 (by omega)]; exact n4) (fun i hi => by rw [q2 (75 + 2 * i) (by omega)]; exact hd i hi) (fun N2 r => ?_) (0, N) ⟨by omega, fun p _ => rfl, fun m hm => absurd hm (by simp)⟩
    have r2 : ∀ p, (∀ m, m < t → p ≠ 76 + 2 * m) → N2 p = N p := r.2.1
    refine hK _ ⟨?_, fun p hp => ?_, fun j hj => ?_, fun i hi => ?_⟩
    · rw [ud_s, r2 1 (by omega), q2 1 (by omega)]
      rfl
    · rw [ud_n hp.1, r2 p (fun m hm => hp.2.2 m (by omega)), q2 p (fun i hi => hp.2.1 i (by omega))]
    · rw [ud_n (by omega), ud_n (by omega), r2 (17 + 5 * j) (by omega), r2 (19 + 5 * j) (by omega)]
      have := q.2.2.1 j hj
      unfold TR tr tr
      rw [show A 75 1 + nI 0 = A 75 1 by show A 75 1 + 0 = _; grind]
      exact this
    · rw [ud_n (by omega)]
      have := r.2.2 i hi
      rw [show N2 (76 + 2 * i) = _ from this, q2 (76 + 2 * i) (by omega), q2 2 (by omega), q2 1 (by omega), q2 (75 + 2 * i) (by omega), q2 (6 + (A 75 (75 + 2 * i)).toNatClampNeg) ?_]
      · unfold TD sa sa
        rw [show A 75 1 + nI 0 = A 75 1 by show A 75 1 + 0 = _; grind]
      · obtain ⟨p, hp, ep⟩ := ix_le 8 (hd i hi).1 (hd i hi).2 rfl
        rw [ep, nI_clamp (by omega)]
        omega
theorem TR_gone {N : Nat → Int32} {j : Nat} (h : N (19 + 5 * j) = 0 ∨ N (19 + 5 * j) = 1) : ∀ n, (TR N j n).2 = 0 ∨ (TR N j n).2 = 1
  | 0 => h
  | n + 1 => by
    have ih := TR_gone h n
    unfold TR at ih ⊢
    unfold tr st1
    split
    · split
      · exact Or.inl rfl
      · exact Or.inr rfl
    · exact ih
theorem su_c {f g : Nat → Int32} : ∀ (k : Nat), (∀ j, j < k → f j = g j) → su f k = su g k
  | 0, _ => rfl
  | k + 1, h => by
    unfold su
    rw [su_c k (fun j hj => h j (by omega)), h k (by omega)]
theorem YR_0 (k t : Nat) (N : Nat → Int32) : YR k t 0 N N := by
  refine ⟨?_, fun _ _ => rfl, fun _ _ => rfl, fun _ _ => rfl⟩
  show N 1 = N 1 + 0
  grind
theorem YR_sm {k t n : Nat} {N N1 : Nat → Int32} (hm : hM k t N) (h : YR k t n N N1) {j : Nat} (hj : j < k) (y : Int32) : sm N1 j y = sm N j y := by
  have h2 := h.2.1
  have hb := (hm.2.2.2.2.1 j hj).1
  have hk := hm.1
  exact sm_c (h2 2 ⟨by omega, fun _ _ => by omega, fun _ _ => by omega⟩) (fun q hq => h2 _ ⟨by omega, fun _ _ => by omega, fun _ _ => by omega⟩) (h2 _ ⟨by omega, fun _ _ => by omega, fun _ _ => by omega⟩) (h2 _ ⟨by omega, fun _ _ => by omega, fun _ _ => by omega⟩) (h2 _ ⟨by omega, fun _ _ => by omega, fun _ _ => by omega⟩) hb.1 hb.2
theorem hM_YR {k t n : Nat} {N N1 : Nat → Int32} (hm : hM k t N) (h : YR k t n N N1) : hM k t N1 := by
  obtain ⟨hk, ht, n3, n4, hh, hd⟩ := hm
  have h2 := h.2.1
  refine ⟨hk, ht, ?_, ?_, fun j hj => ⟨?_, ?_⟩, fun i hi => ?_⟩
  · rw [h2 3 ⟨by omega, fun _ _ => by omega, fun _ _ => by omega⟩]; exact n3
  · rw [h2 4 ⟨by omega, fun _ _ => by omega, fun _ _ => by omega⟩]; exact n4
  · rw [h2 (16 + 5 * j) ⟨by omega, fun _ _ => by omega, fun _ _ => by omega⟩]; exact (hh j hj).1
  · have := h.2.2.1 j hj
    have q : N1 (19 + 5 * j) = (TR N j n).2 := congrArg Prod.snd this
    rw [q]
    exact TR_gone (hh j hj).2 n
  · rw [h2 (75 + 2 * i) ⟨by omega, fun _ _ => by omega, fun _ _ => by omega⟩]; exact hd i hi
theorem YR_step {k t n : Nat} {N N1 N2 : Nat → Int32} (hm : hM k t N) (h : YR k t n N N1) (h1 : YR k t 1 N1 N2) : YR k t (n + 1) N N2 := by
  have c0 : cst 0 := ⟨by omega, fun _ _ => by omega, fun _ _ => by omega⟩
  have c2 : cst 2 := ⟨by omega, fun _ _ => by omega, fun _ _ => by omega⟩
  have e1 : N1 1 + nI 0 = N 1 + nI n := by
    rw [h.1]
    show N 1 + nI n + 0 = _
    grind
  refine ⟨?_, fun q hq => (h1.2.1 q hq).trans (h.2.1 q hq), fun j hj => ?_, fun i hi => ?_⟩
  · rw [h1.1, h.1, ← nI_1 n]
    show N 1 + nI n + 1 = N 1 + (nI n + 1)
    grind
  · rw [h1.2.2.1 j hj]
    have q := h.2.2.1 j hj
    unfold TR at q ⊢
    show st1 (N1 0) (sm N1 j (N1 1 + nI 0)) (N1 (17 + 5 * j), N1 (19 + 5 * j)) = st1 (N 0) (sm N j (N 1 + nI n)) (tr _ _ _ _ n)
    rw [q, h.2.1 0 c0, e1, YR_sm hm h hj]
  · rw [h1.2.2.2 i hi]
    have q := h.2.2.2 i hi
    have hb := hm.2.2.2.2.2 i hi
    have ht := hm.2.1
    unfold TD at q ⊢
    show N1 (76 + 2 * i) + fl (N1 2) (N1 (6 + (N1 (75 + 2 * i)).toNatClampNeg)) (N1 1 + nI 0) = sa _ _ n + fl (N 2) (N (6 + (N (75 + 2 * i)).toNatClampNeg)) (N 1 + nI n)
    rw [q, e1, h.2.1 2 c2, h.2.1 (75 + 2 * i) ⟨by omega, fun _ _ => by omega, fun _ _ => by omega⟩]
    obtain ⟨p, hp, ep⟩ := ix_le 8 hb.1 hb.2 rfl
    rw [ep, nI_clamp (by omega), h.2.1 (6 + p) ⟨by omega, fun _ _ => by omega, fun _ _ => by omega⟩]
def YC (k : Nat) (N : Nat → Int32) (m : Nat) : Int32 := su (fun j => Lc (N 0) (sm N j (N 1 + nI m)) (TR N j m)) k
theorem lp_yearsGo {E : ME} {d : Nat} {A A0 : Nat → Nat → Int32} {B : Nat → Nat → Int64} {K : MK} {k t n : Nat} {N0 : Nat → Int32} (hn : n ≤ 1000) (hm : hM k t N0) (hK : ∀ N, YR k t n N0 N → K (some (.int (su (YC k N0) n))) (SH, va_up A 75 N, B)) : ∀ v : Nat × (Nat → Int32), (v.1 ≤ n ∧ YR k t v.1 N0 v.2) → mSem E (d + 7) nX9_yearsGo (SH, A0, B) 0 0 K 4 [some (.ref 74), some (.int (nI n)), some (.int (su (YC k N0) v.1)), some (.int (nI v.1))] [] (SH, va_up A 75 v.2, B) := by
  refine mSem_loop (σ := Nat × (Nat → Int32)) (h0 := (SH, A0, B)) MX9_yearsGo rfl aX9_yearsGo 300 [4] (fun v => [some (.ref 74), some (.int (nI n)), some (.int (su (YC k N0) v.1)), some (.int (nI v.1))]) (fun v => (SH, va_up A 75 v.2, B)) (fun v => v.1 ≤ n ∧ YR k t v.1 N0 v.2) (fun v => n - v.1) ?_
  rintro ⟨j, N⟩ ⟨hj, hY⟩ cl ax hcl hax hlp
  have hj : j ≤ n := hj
  have hY : YR k t j N0 N := hY
  refine ⟨fun (c0 : nI n ≤ nI j) => ?_, fun (c0 : ¬ nI n ≤ nI j) => ?_⟩
  · rw [nI_leI (by omega) (by omega)] at c0
    have : j = n := by omega
    subst this
    exact hK N hY
  · rw [nI_leI (by omega) (by omega)] at c0
    refine hcl _ _ _ _ (w_year (A := va_up A 75 N) (k := k) (t := t) (hM_YR hm hY) (fun N2 h2 => ?_))
    have h2 : YR k t 1 N N2 := h2
    have ec : su (fun j => Lc (N 0) (sm N j (N 1)) (N (17 + 5 * j), N (19 + 5 * j))) k = YC k N0 j := by
      unfold YC
      refine su_c k (fun i hi => ?_)
      rw [hY.2.2.1 i hi, YR_sm hm hY hi, hY.1, hY.2.1 0 ⟨by omega, fun _ _ => by omega, fun _ _ => by omega⟩]
    have this : ax 4 [some (.ref 74), some (.int (nI n)), some (.int (su (YC k N0) (j + 1))), some (.int (nI (j + 1)))] [] (SH, va_up A 75 N2, B) := hlp (j + 1, N2) ⟨by show j + 1 ≤ n; omega, YR_step hm hY h2⟩ (by show n - (j + 1) < n - j; omega)
    rw [← nI_1, su, ← ec, ← up_up (F := N)] at this
    exact this
theorem w_yearsGo {E : ME} {d : Nat} {A : Nat → Nat → Int32} {B : Nat → Nat → Int64} {K : MK} {k t n : Nat} (hn : n ≤ 1000) (hm : hM k t (A 75)) (hK : ∀ N, YR k t n (A 75) N → K (some (.int (su (YC k (A 75)) n))) (SH, va_up A 75 N, B)) : mCall E (d + 7) nX9_yearsGo [.ref 74, .int (nI n)] (SH, A, B) K := by
  refine mCall_sem MX9_yearsGo rfl rfl (Or.inl ⟨rfl, rfl, rfl⟩) rfl (mSem_wp MX9_yearsGo rfl aX9_yearsGo 300 [4] (fun cl ax hcl hax => ?_))
  have e : va_up A 75 (A 75) = A := by
    funext q
    unfold va_up
    split
    · rename_i c; rw [c]
    · rfl
  have this := lp_yearsGo (E := E) (d := d) (A := A) (A0 := A) (B := B) (K := K) hn hm hK (0, A 75) ⟨by omega, YR_0 k t _⟩
  rw [e] at this
  exact hax _ _ _ _ this
