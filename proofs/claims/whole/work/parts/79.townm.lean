/-! THE MODEL: items become so; the town -/
def itA (I : Nat → Int32) (j : Nat) : Int32 × Int32 × Int32 × Int32 × Int32 := (I (5 * j), I (5 * j + 1), I (5 * j + 2), I (5 * j + 3), I (5 * j + 4))
def apN (V I : Nat → Int32) : Nat → (Nat → Int32)
  | 0 => V
  | n + 1 => apI (apN V I n) (itA I n)
theorem itA_lt {I : Nat → Int32} {n j : Nat} {it : Int32 × Int32 × Int32 × Int32 × Int32} (h : j < n) : itA (it5 I n it) j = itA I j := by
  unfold itA it5
  rw [ud_n (by omega), ud_n (by omega), ud_n (by omega), ud_n (by omega), ud_n (by omega), ud_n (by omega), ud_n (by omega), ud_n (by omega), ud_n (by omega), ud_n (by omega), ud_n (by omega), ud_n (by omega), ud_n (by omega), ud_n (by omega), ud_n (by omega), ud_n (by omega), ud_n (by omega), ud_n (by omega), ud_n (by omega), ud_n (by omega), ud_n (by omega), ud_n (by omega), ud_n (by omega), ud_n (by omega), ud_n (by omega)]
theorem itA_s {I : Nat → Int32} {n : Nat} {it : Int32 × Int32 × Int32 × Int32 × Int32} : itA (it5 I n it) n = it := by
  obtain ⟨a, b, c, d, e⟩ := it
  have h0 : it5 I n (a, b, c, d, e) (5 * n) = a := by
    unfold it5
    rw [ud_n (by omega), ud_n (by omega), ud_n (by omega), ud_n (by omega), ud_s]
  have h1 : it5 I n (a, b, c, d, e) (5 * n + 1) = b := by
    unfold it5
    rw [ud_n (by omega), ud_n (by omega), ud_n (by omega), ud_s]
  have h2 : it5 I n (a, b, c, d, e) (5 * n + 2) = c := by
    unfold it5
    rw [ud_n (by omega), ud_n (by omega), ud_s]
  have h3 : it5 I n (a, b, c, d, e) (5 * n + 3) = d := by
    unfold it5
    rw [ud_n (by omega), ud_s]
  have h4 : it5 I n (a, b, c, d, e) (5 * n + 4) = e := by
    unfold it5
    rw [ud_s]
  unfold itA
  rw [h0, h1, h2, h3, h4]
theorem apN_lt {V I : Nat → Int32} {n : Nat} {it : Int32 × Int32 × Int32 × Int32 × Int32} : ∀ j, j ≤ n → apN V (it5 I n it) j = apN V I j
  | 0, _ => rfl
  | j + 1, h => by
    rw [apN, apN, apN_lt j (by omega), itA_lt (by omega)]
theorem apN_s {V I : Nat → Int32} {n : Nat} {it : Int32 × Int32 × Int32 × Int32 × Int32} : apN V (it5 I n it) (n + 1) = apI (apN V I n) it := by
  rw [apN, apN_lt n (Nat.le_refl _), itA_s]
theorem w_isSo {E : ME} {d : Nat} {A : Nat → Nat → Int32} {B : Nat → Nat → Int64} {K : MK} {j : Nat} {x : Int32} (ex : x = nI (5 * j)) (hj : j < 120) (hv : VI (A 75) (itA (A 81) j)) (hK : K none (SH, va_up A 75 (apI (A 75) (itA (A 81) j)), B)) : mCall E (d + 1) nX9_isSo [.ref 74, .int x] (SH, A, B) K := by
  subst ex
  have m1 : nI (5 * j) + 1 = nI (5 * j + 1) := nI_add (5 * j) 1
  have m2 : nI (5 * j) + 2 = nI (5 * j + 2) := nI_add (5 * j) 2
  have m3 : nI (5 * j) + 3 = nI (5 * j + 3) := nI_add (5 * j) 3
  have m4 : nI (5 * j) + 4 = nI (5 * j + 4) := nI_add (5 * j) 4
  have e0 : (nI (5 * j)).toNatClampNeg = 5 * j := nI_clamp (by omega)
  have e1 : (nI (5 * j) + 1).toNatClampNeg = 5 * j + 1 := by rw [m1]; exact nI_clamp (by omega)
  have e2 : (nI (5 * j) + 2).toNatClampNeg = 5 * j + 2 := by rw [m2]; exact nI_clamp (by omega)
  have e3 : (nI (5 * j) + 3).toNatClampNeg = 5 * j + 3 := by rw [m3]; exact nI_clamp (by omega)
  have e4 : (nI (5 * j) + 4).toNatClampNeg = 5 * j + 4 := by rw [m4]; exact nI_clamp (by omega)
  have v0 : vp_in (nI (5 * j)) 600 := vp_in_nI (by omega) (by decide)
  have v1 : vp_in (nI (5 * j) + 1) 600 := by rw [m1]; exact vp_in_nI (by omega) (by decide)
  have v2 : vp_in (nI (5 * j) + 2) 600 := by rw [m2]; exact vp_in_nI (by omega) (by decide)
  have v3 : vp_in (nI (5 * j) + 3) 600 := by rw [m3]; exact vp_in_nI (by omega) (by decide)
  have v4 : vp_in (nI (5 * j) + 4) 600 := by rw [m4]; exact vp_in_nI (by omega) (by decide)
  unfold itA at hv hK
  rw [← e4, ← e3, ← e2, ← e1] at hK hv
  rw [show A 81 (5 * j) = A 81 (nI (5 * j)).toNatClampNeg by rw [e0]] at hK hv
  generalize h0 : A 81 (nI (5 * j)).toNatClampNeg = w at hK hv
  refine mCall_sem MX9_isSo rfl rfl (Or.inl ⟨rfl, rfl, rfl⟩) rfl (mSem_wp MX9_isSo rfl aX9_isSo 300 [] (fun cl ax hcl hax => ?_))
  refine ⟨v1, ?_⟩
  refine ⟨v2, ?_⟩
  refine ⟨v3, ?_⟩
  refine ⟨v0, ?_⟩
  refine ⟨fun (c0 : A 81 (nI (5 * j)).toNatClampNeg = 10) => ?_, fun (c0 : ¬ A 81 (nI (5 * j)).toNatClampNeg = 10) => ?_⟩
  · rw [h0] at c0
    subst c0
    rw [apI_edge] at hK
    refine ⟨vl 0 rfl rfl, ?_⟩
    exact hK
  refine ⟨fun (c1 : A 81 (nI (5 * j)).toNatClampNeg = 11) => ?_, fun (c1 : ¬ A 81 (nI (5 * j)).toNatClampNeg = 11) => ?_⟩
  · rw [h0] at c1
    subst c1
    rcases hv with q | ⟨_, q0, q8⟩ | q | ⟨q, _⟩ | ⟨q0, q5, _⟩
    · exact absurd (show (11 : Int32) = 10 from q) (by decide)
    · have q0 : 0 ≤ A 81 (nI (5 * j) + 1).toNatClampNeg := q0
      have q8 : A 81 (nI (5 * j) + 1).toNatClampNeg ≤ 8 := q8
      obtain ⟨l, hl, el⟩ := ix_le 8 q0 q8 rfl
      rw [el, apI_pace (by omega)] at hK
      have ei : 6 + A 81 (nI (5 * j) + 1).toNatClampNeg = nI (6 + l) := by rw [el]; exact nI_add 6 l
      refine ⟨show vp_in (6 + A 81 (nI (5 * j) + 1).toNatClampNeg) 135 by rw [ei]; exact vp_in_nI (by omega) (by decide), ?_⟩
      rw [show 6 + l = (6 + A 81 (nI (5 * j) + 1).toNatClampNeg).toNatClampNeg by rw [ei, nI_clamp (by omega)]] at hK
      exact hK
    · exact absurd (show (11 : Int32) = 12 from q) (by decide)
    · exact absurd (show (11 : Int32) = 13 from q) (by decide)
    · exact absurd (show (11 : Int32) ≤ 5 from q5) (by decide)
  refine ⟨fun (c2 : A 81 (nI (5 * j)).toNatClampNeg = 12) => ?_, fun (c2 : ¬ A 81 (nI (5 * j)).toNatClampNeg = 12) => ?_⟩
  · rw [h0] at c2
    subst c2
    rw [apI_warm] at hK
    refine ⟨vl 2 rfl rfl, ?_⟩
    exact hK
  refine ⟨fun (c3 : A 81 (nI (5 * j)).toNatClampNeg = 13) => ?_, fun (c3 : ¬ A 81 (nI (5 * j)).toNatClampNeg = 13) => ?_⟩
  · rw [h0] at c3
    subst c3
    rcases hv with q | ⟨q, _⟩ | q | ⟨_, s, s10, es⟩ | ⟨q0, q5, _⟩
    · exact absurd (show (13 : Int32) = 10 from q) (by decide)
    · exact absurd (show (13 : Int32) = 11 from q) (by decide)
    · exact absurd (show (13 : Int32) = 12 from q) (by decide)
    · rw [apI_stake (by omega) es] at hK
      refine ⟨v4, ?_⟩
      exact hcl _ _ _ _ (w_staked s10 es hK)
    · exact absurd (show (13 : Int32) ≤ 5 from q5) (by decide)
  rw [h0] at c0 c1 c2 c3
  rcases hv with q | ⟨q, _⟩ | q | ⟨q, _⟩ | ⟨q0, q5, h, h12, eh⟩
  · exact absurd q c0
  · exact absurd q c1
  · exact absurd q c2
  · exact absurd q c3
  · have q0 : 0 ≤ w := q0
    have q5 : w ≤ 5 := q5
    rw [apI_house q0 q5 (by omega) eh, ← h0] at hK
    refine ⟨v0, ?_⟩
    exact hcl _ _ _ _ (w_built h12 eh hK)
def FRM (A A' : Nat → Nat → Int32) : Prop := (∀ q, q ≠ 74 → q ≠ 75 → q ≠ 81 → A' q = A q) ∧ (∀ q, q < 6 → A' 74 q = A 74 q) ∧ A' 74 6 = 0
theorem lp_so {E : ME} {d : Nat} {A A0 : Nat → Nat → Int32} {B : Nat → Nat → Int64} {K : MK} {n : Nat} {N : Nat → Int32} (hn : n ≤ 120) (h14 : A 74 14 = nI n) (hv : ∀ j, j < n → VI (apN N (A 81) j) (itA (A 81) j)) (hK : K (some (.int (nI n))) (SH, va_up A 75 (apN N (A 81) n), B)) : ∀ j, j ≤ n → mSem E (d + 2) nX9_town (SH, A0, B) 0 0 K 129 [some (.ref 74), some (.int (nI j))] [] (SH, va_up A 75 (apN N (A 81) j), B) := by
  refine mSem_loop (h0 := (SH, A0, B)) MX9_town rfl aX9_town 300 [129] (fun j => [some (.ref 74), some (.int (nI j))]) (fun j => (SH, va_up A 75 (apN N (A 81) j), B)) (fun j => j ≤ n) (fun j => n - j) ?_
  intro j hj cl ax hcl hax hlp
  refine ⟨fun (c : A 74 14 ≤ nI j) => ?_, fun (c : ¬ A 74 14 ≤ nI j) => ?_⟩
  · rw [h14, nI_leI (by omega) (by omega)] at c
    have : j = n := by omega
    subst this
    rw [← h14] at hK
    exact hK
  · rw [h14, nI_leI (by omega) (by omega)] at c
    refine hcl _ _ _ _ (w_isSo (A := va_up A 75 (apN N (A 81) j)) (j := j) (show 5 * nI j = nI (5 * j) from pk_mul 5 j) (by omega) (hv j (by omega)) ?_)
    have this : ax 129 [some (.ref 74), some (.int (nI (j + 1)))] [] (SH, va_up A 75 (apN N (A 81) (j + 1)), B) := hlp (j + 1) (by omega) (by omega)
    rw [← nI_1, apN, ← up_up (F := apN N (A 81) j)] at this
    exact this
theorem mt108 {E : ME} {d : Nat} {A A0 : Nat → Nat → Int32} {B : Nat → Nat → Int64} {K : MK} {c : Nat → Int32} {k n : Nat} {s : Nat × Bool} (hT : MT c k (A 74) s) (kw : s.2 = true → ∀ A', (∀ q, q ≠ 74 → A' q = A q) → (∀ q, q < 6 → A' 74 q = A 74 q) → A' 74 6 = 0 → K (some (.int (-1 - nI (tb c k s.1)))) (SH, A', B)) (ko : s.2 = false → (n ≤ 120 ∧ A 74 14 = nI n ∧ ∀ j, j < n → VI (apN (A 75) (A 81) j) (itA (A 81) j)) ∧ ∀ A', (∀ q, q ≠ 74 → q ≠ 75 → A' q = A q) → (∀ q, q < 6 → A' 74 q = A 74 q) → A' 74 6 = 0 → A' 75 = apN (A 75) (A 81) n → K (some (.int (nI n))) (SH, A', B)) : mSem E (d + 2) nX9_town (SH, A0, B) 0 0 K 108 [some (.ref 74), none] [] (SH, A, B) := by
  have h11 := hT.2.2.2.2.2.1
  have h7 := hT.2.1
  refine mSem_wp MX9_town rfl aX9_town 300 [129] (fun cl ax hcl hax => ?_)
  cases hw : s.2 with
  | true =>
    rw [hw] at h11
    refine ⟨fun (z : A 74 11 = 0) => absurd (z.symm.trans h11) (by decide), fun _ => ?_⟩
    have this := kw hw (va_up A 74 (upd (A 74) 6 0)) (fun q hq => up_n hq) (fun q hq => ud_n (f := A 74) (by omega)) rfl
    rw [← h7] at this
    exact this
  | false =>
    rw [hw] at h11
    obtain ⟨⟨n120, h14, hv⟩, k2⟩ := ko hw
    refine ⟨fun _ => ?_, fun (z : ¬ A 74 11 = 0) => absurd h11 z⟩
    have e : va_up (va_up A 74 (upd (A 74) 6 0)) 75 (apN (A 75) (A 81) 0) = va_up A 74 (upd (A 74) 6 0) := by
      funext q
      unfold va_up
      split
      · rename_i c; rw [c]; rfl
      · rfl
    have this := lp_so (E := E) (d := d) (A := va_up A 74 (upd (A 74) 6 0)) (A0 := A0) (B := B) (K := K) (N := A 75) n120 h14 hv (k2 _ (fun q a b => (up_n b).trans (up_n a)) (fun q hq => ud_n (f := A 74) (by omega)) rfl rfl) 0 (by omega)
    have this : mSem E (d + 2) nX9_town (SH, A0, B) 0 0 K 129 [some (.ref 74), some (.int (nI 0))] [] (SH, va_up (va_up A 74 (upd (A 74) 6 0)) 75 (apN (A 75) (A 81) 0), B) := this
    rw [e] at this
    exact hax _ _ _ _ this
theorem mt92 {E : ME} {d : Nat} {A A0 : Nat → Nat → Int32} {B : Nat → Nat → Int64} {K : MK} {c : Nat → Int32} {k : Nat} {s : Nat × Bool} (hk : k ≤ 120) (hc : ∀ j, j < k → A 79 j = c j) (hp : ∀ j, j < k → 0 ≤ c j) (hT : MT c k (A 74) s) (hK : ∀ F, MT c k F (mS c k s (decide (ts c k s.1 = 0))) → RS (A 74) F → mSem E (d + 3) nX9_town (SH, A0, B) 0 0 K 108 [some (.ref 74), none] [] (SH, va_up A 74 F, B)) : mSem E (d + 3) nX9_town (SH, A0, B) 0 0 K 92 [some (.ref 74), none] [] (SH, A, B) := by
  have h9 := hT.2.2.2.1
  have hb := tk_b c hT.2.2.2.2.2.2
  refine mSem_wp MX9_town rfl aX9_town 300 [108] (fun cl ax hcl hax => ?_)
  refine ⟨fun (z : ¬ A 74 9 = nI 0) => ?_, fun (z : A 74 9 = nI 0) => ?_⟩
  · rw [h9, nI_eq (by omega) (by omega)] at z
    rw [decide_eq_false z] at hK
    refine hcl _ _ _ _ (w_must (s := s) false rfl hk hc hp hT (fun F f1 f2 => ?_))
    exact hax _ _ _ _ (hK F f1 f2)
  · rw [h9, nI_eq (by omega) (by omega)] at z
    rw [decide_eq_true z] at hK
    refine hcl _ _ _ _ (w_must (s := s) true rfl hk hc hp hT (fun F f1 f2 => ?_))
    exact hax _ _ _ _ (hK F f1 f2)
/-- behind an item -/
def MQt (c : Nat → Int32) (k : Nat) (A A1 : Nat → Nat → Int32) (n : Nat) (V : Nat → Int32) (e : Nat) : Prop := ((∀ q, q ≠ 74 → q ≠ 81 → A1 q = A q) ∧ ∀ q, q < 6 → A1 74 q = A 74 q) ∧ MT c k (A1 74) (rdI c k V e).1 ∧ ((rdI c k V e).1.2 = false → A1 74 14 = nI (n + 1) ∧ MR (A 75) (A1 74) (apI V (rdI c k V e).2) ∧ apN (A 75) (A1 81) (n + 1) = apI V (rdI c k V e).2 ∧ ∀ j, j < n + 1 → VI (apN (A 75) (A1 81) j) (itA (A1 81) j))
/-- an item is read -/
theorem MQt_read {c : Nat → Int32} {k n e : Nat} {A A1 : Nat → Nat → Int32} {V : Nat → Int32} (hV : VB V) (h1 : ∀ q, q ≠ 74 → q ≠ 81 → A1 q = A q) (h2 : ∀ q, q < 6 → A1 74 q = A 74 q) (hN : apN (A 75) (A1 81) n = V) (hv : ∀ j, j < n → VI (apN (A 75) (A1 81) j) (itA (A1 81) j)) {F I : Nat → Int32} (f1 : MT c k F (rdI c k V e).1) (f2 : ∀ q, q < 7 → F q = A1 74 q) (f3 : (rdI c k V e).1.2 = false → F 14 = nI (n + 1) ∧ MR (A1 75) F (apI V (rdI c k V e).2) ∧ I = it5 (A1 81) n (rdI c k V e).2) : MQt c k A (va_up (va_up A1 81 I) 74 F) n V e := by
  refine ⟨⟨fun q a b => (up_n a).trans ((up_n b).trans (h1 q a b)), fun q hq => (f2 q (by omega)).trans (h2 q hq)⟩, f1, fun ok => ?_⟩
  obtain ⟨g1, g2, g3⟩ := f3 ok
  have e75 : A1 75 = A 75 := h1 75 (by decide) (by decide)
  rw [e75] at g2
  refine ⟨g1, g2, ?_, fun j hj => ?_⟩
  · show apN (A 75) I (n + 1) = _
    rw [g3, apN_s, hN]
  · show VI (apN (A 75) I j) (itA I j)
    rw [g3, apN_lt j (by omega)]
    by_cases q : j = n
    · subst q
      rw [itA_s, hN]
      exact (rd_VI hV ok).1
    · rw [itA_lt (by omega)]
      exact hv j (by omega)
theorem lp_mt {E : ME} {d : Nat} {A A0 : Nat → Nat → Int32} {B : Nat → Nat → Int64} {K : MK} {c : Nat → Int32} {k : Nat} (hk : k ≤ 120) (hc : ∀ j, j < k → A 79 j = c j) (hp : ∀ j, j < k → 0 ≤ c j) (r : Bool × Nat × (Nat → Int32)) (k1 : r.1 = true → ∀ A', FRM A A' → A' 75 = r.2.2 → K (some (.int (nI r.2.1))) (SH, A', B)) (k0 : r.1 = false → ∀ A', FRM A A' → A' 75 = A 75 → K (some (.int (-1 - nI r.2.1))) (SH, A', B)) : ∀ (f n e : Nat) (V : Nat → Int32) (A1 : Nat → Nat → Int32), e ≤ k → k < e + f → 2 * n ≤ e → VB V → MQt c k A A1 n V e → txt c k f n V e = r → mSem E (d + 8) nX9_town (SH, A0, B) 0 0 K 51 [some (.ref 74), none] [] (SH, A1, B) := by
  intro f
  induction f with
  | zero => intro n e V A1 h1 h2; omega
  | succ f ih =>
    intro n e V A1 he hf hn hV hQ hr
    obtain ⟨⟨q1, q2⟩, hT, hok⟩ := hQ
    have hc1 : ∀ j, j < k → A1 79 j = c j := fun j hj => by rw [q1 79 (by decide) (by decide)]; exact hc j hj
    have e75 : A1 75 = A 75 := q1 75 (by decide) (by decide)
    have h11 := hT.2.2.2.2.2.1
    have h9 := hT.2.2.2.1
    have h7 := hT.2.1
    have hx : (rdI c k V e).1.1 ≤ k := hT.2.2.2.2.2.2
    have hb := tk_b c hx
    rw [txt] at hr
    have wrong : ∀ (s : Nat × Bool), s.2 = true → s.1 = (rdI c k V e).1.1 → (false, tb c k (rdI c k V e).1.1, V) = r → ∀ F, MT c k F s → RS (A1 74) F → mSem E (d + 8) nX9_town (SH, A0, B) 0 0 K 108 [some (.ref 74), none] [] (SH, va_up A1 74 F, B) := fun s hs e1 e2 F f1 f2 => by
      subst e2
      refine mt108 (d := d + 6) (n := 0) f1 (fun _ A' a1 a2 a3 => ?_) (fun z => absurd (z.symm.trans hs) (by decide))
      rw [e1]
      refine k0 rfl A' ⟨fun q b1 b2 b3 => (a1 q b1).trans ((up_n b1).trans (q1 q b1 b3)), fun q hq => (a2 q hq).trans ((f2 q (by omega)).trans (q2 q hq)), a3⟩ ?_
      exact (a1 75 (by decide)).trans e75
    refine mSem_wp MX9_town rfl aX9_town 300 [51, 92] (fun cl ax hcl hax => ?_)
    cases hw : (rdI c k V e).1.2 with
    | true =>
      rw [hw] at h11 hr
      refine ⟨fun _ => ?_, fun (z : A1 74 11 = 0) => absurd (z.symm.trans h11) (by decide)⟩
      refine hax _ _ _ _ (mt92 (d := d + 5) hk hc1 hp hT (fun F f1 f2 => ?_))
      rw [mS_p hw] at f1
      exact wrong _ hw rfl hr F f1 f2
    | false =>
      obtain ⟨o1, o2, o3, o4⟩ := hok hw
      have es : (rdI c k V e).1 = ((rdI c k V e).1.1, false) := by rw [← hw]
      rw [hw] at h11 hr
      have hr : (if ts c k (rdI c k V e).1.1 = 0 then (true, n + 1, apI V (rdI c k V e).2) else if ts c k (rdI c k V e).1.1 = 3 ∧ c (tb c k (rdI c k V e).1.1) = 59 then txt c k f (n + 1) (apI V (rdI c k V e).2) (te c k (rdI c k V e).1.1) else (false, tb c k (rdI c k V e).1.1, V)) = r := hr
      obtain ⟨g1, g2⟩ := rd_ge he hw
      have good : ts c k (rdI c k V e).1.1 = 0 → mSem E (d + 8) nX9_town (SH, A0, B) 0 0 K 92 [some (.ref 74), none] [] (SH, A1, B) := fun z => by
        rw [if_pos z] at hr
        subst hr
        refine mt92 (d := d + 5) hk hc1 hp hT (fun F f1 f2 => ?_)
        rw [es, decide_eq_true z] at f1
        refine mt108 (d := d + 6) (n := n + 1) f1 (fun y => by cases y) (fun _ => ⟨⟨by omega, (f2 14 (by omega)).trans o1, ?_⟩, fun A' a1 a2 a3 a4 => ?_⟩)
        · show ∀ j, j < n + 1 → VI (apN (A1 75) (A1 81) j) (itA (A1 81) j)
          rw [e75]
          exact o4
        · refine k1 rfl A' ⟨fun q b1 b2 b3 => (a1 q b1 b2).trans ((up_n b1).trans (q1 q b1 b3)), fun q hq => (a2 q hq).trans ((f2 q (by omega)).trans (q2 q hq)), a3⟩ ?_
          have a4 : A' 75 = apN (A1 75) (A1 81) (n + 1) := a4
          rw [a4, e75, o3]
      have bad : ¬ ts c k (rdI c k V e).1.1 = 0 → ¬ (ts c k (rdI c k V e).1.1 = 3 ∧ c (tb c k (rdI c k V e).1.1) = 59) → mSem E (d + 8) nX9_town (SH, A0, B) 0 0 K 92 [some (.ref 74), none] [] (SH, A1, B) := fun z y => by
        rw [if_neg z, if_neg y] at hr
        refine mt92 (d := d + 5) hk hc1 hp hT (fun F f1 f2 => ?_)
        rw [es, decide_eq_false z] at f1
        exact wrong ((rdI c k V e).1.1, true) rfl rfl hr F f1 f2
      refine ⟨fun (z : ¬ A1 74 11 = 0) => absurd h11 z, fun _ => ?_⟩
      refine ⟨fun (z : ¬ A1 74 9 = nI 3) => ?_, fun (z : A1 74 9 = nI 3) => ?_⟩
      · rw [h9, nI_eq (by omega) (by omega)] at z
        by_cases z0 : ts c k (rdI c k V e).1.1 = 0
        · exact hax _ _ _ _ (good z0)
        · exact hax _ _ _ _ (bad z0 (fun y => z y.1))
      · rw [h9, nI_eq (by omega) (by omega)] at z
        have z0 : ¬ ts c k (rdI c k V e).1.1 = 0 := by omega
        have e7 : (A1 74 7).toNatClampNeg = tb c k (rdI c k V e).1.1 := by rw [h7]; exact nI_clamp (by omega)
        refine ⟨show vp_in (A1 74 7) 120 by rw [h7]; exact vp_in_nI (by omega) (by decide), ?_⟩
        have ec : A1 79 (A1 74 7).toNatClampNeg = c (tb c k (rdI c k V e).1.1) := by rw [e7]; exact hc1 _ (by omega)
        refine ⟨fun (y : ¬ A1 79 (A1 74 7).toNatClampNeg = 59) => ?_, fun (y : A1 79 (A1 74 7).toNatClampNeg = 59) => ?_⟩
        · rw [ec] at y
          exact hax _ _ _ _ (bad z0 (fun x => y x.2))
        · rw [ec] at y
          rw [if_neg z0, if_pos ⟨z, y⟩] at hr
          have hV2 := (rd_VI hV hw).2
          refine hcl _ _ _ _ (w_must (s := (rdI c k V e).1) true rfl hk hc1 hp hT (fun F f1 f2 => ?_))
          rw [es] at f1
          have f1 : MT c k F (te c k (rdI c k V e).1.1, false) := f1
          refine hcl _ _ _ _ (w_X9_readItem (A := va_up A1 74 F) (V := apI V (rdI c k V e).2) (n := n + 1) hk hc1 hp (by omega) hV2 f1 (show MR (A1 75) F _ from by
            rw [e75]
            obtain ⟨m1, m2, m3, m4⟩ := o2
            exact ⟨by rw [f2 15 (by omega)]; exact m1, by rw [f2 16 (by omega)]; exact m2, by rw [f2 17 (by omega)]; exact m3, by rw [f2 18 (by omega)]; exact m4⟩) ((f2 14 (by omega)).trans o1) (fun F2 I g1 g2 g3 => ?_))
          exact hax _ _ _ _ (ih (n + 1) (te c k (rdI c k V e).1.1) (apI V (rdI c k V e).2) _ hb.2.2.1 (by omega) (by omega) hV2 (MQt_read (A := A) (A1 := va_up A1 74 F) hV2 (fun q a b => (up_n a).trans (q1 q a b)) (fun q hq => (f2 q (by omega)).trans (q2 q hq)) o3 o4 g1 g2 g3) hr)
