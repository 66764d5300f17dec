/-! the model reads an item -/
theorem mS_ok {c : Nat → Int32} {k : Nat} {s : Nat × Bool} {x : Bool} (h : (mS c k s x).2 = false) : s.2 = false ∧ x = true ∧ mS c k s x = (te c k s.1, false) := by
  obtain ⟨e, w⟩ := s
  cases w with
  | true => cases h
  | false =>
    cases x with
    | false => cases h
    | true => exact ⟨rfl, rfl, rfl⟩
theorem nS_ok {c : Nat → Int32} {k : Nat} {s : Nat × Bool} {lo hi : Int32} (h : (nS c k s lo hi).2 = false) : s.2 = false ∧ nG c k s.1 lo hi = true ∧ nS c k s lo hi = (te c k s.1, false) := mS_ok h
theorem apI_house {V : Nat → Int32} {kd ln ft hd x : Int32} {h : Nat} (k0 : 0 ≤ kd) (k5 : kd ≤ 5) (h12 : h < 2 ^ 31) (hV : V 3 = nI h) : apI V (kd, ln, ft, hd, x) = upd (upd (upd (upd (upd (upd V (15 + 5 * h) kd) (16 + 5 * h) ln) (17 + 5 * h) ft) (18 + 5 * h) hd) (19 + 5 * h) 0) 3 (nI (h + 1)) := by
  have e : (V 3).toNatClampNeg = h := by rw [hV]; exact nI_clamp h12
  unfold apI
  rw [if_neg (show ¬ kd = 10 by grind), if_neg (show ¬ kd = 11 by grind), if_neg (show ¬ kd = 12 by grind), if_neg (show ¬ kd = 13 by grind), e]
theorem apI_stake {V : Nat → Int32} {a b x y : Int32} {s : Nat} (h12 : s < 2 ^ 31) (hV : V 5 = nI s) : apI V (13, a, b, x, y) = upd (upd (upd (upd (upd V (95 + 4 * s) a) (96 + 4 * s) b) (97 + 4 * s) x) (98 + 4 * s) y) 5 (nI (s + 1)) := by
  have e : (V 5).toNatClampNeg = s := by rw [hV]; exact nI_clamp h12
  unfold apI
  rw [if_neg (show ¬ (13 : Int32) = 10 by decide), if_neg (show ¬ (13 : Int32) = 11 by decide), if_neg (show ¬ (13 : Int32) = 12 by decide), if_pos rfl, e]
theorem apI_edge {V : Nat → Int32} {a b x y : Int32} : apI V (10, a, b, x, y) = upd V 0 a := by
  unfold apI
  rw [if_pos rfl]
theorem apI_pace {V : Nat → Int32} {b x y : Int32} {l : Nat} (h : l < 2 ^ 31) : apI V (11, nI l, b, x, y) = upd V (6 + l) b := by
  unfold apI
  rw [if_neg (show ¬ (11 : Int32) = 10 by decide), if_pos rfl, show ((11 : Int32), nI l, b, x, y).2.1 = nI l from rfl, nI_clamp h]
theorem apI_warm {V : Nat → Int32} {a b x y : Int32} : apI V (12, a, b, x, y) = upd V 2 a := by
  unfold apI
  rw [if_neg (show ¬ (12 : Int32) = 10 by decide), if_neg (show ¬ (12 : Int32) = 11 by decide), if_pos rfl]
/-- what changes no house and no stake -/
theorem MR_one {N F F' V : Nat → Int32} {q : Nat} {v : Int32} (hV : VB V) (h : MR N F V) (hq : q ≠ 3 ∧ q ≠ 5 ∧ q < 15) (h15 : F' 15 = F 15) (h16 : F' 16 = F 16) (h17 : F' 17 = upd V q v 0) (h18 : F' 18 = F 18) : MR N F' (upd V q v) := by
  obtain ⟨m3, m5, m17, m18⟩ := h
  obtain ⟨⟨h, h12, eh⟩, _⟩ := hV
  refine ⟨by rw [h15, ud_n (by omega)]; exact m3, by rw [h16, ud_n (by omega)]; exact m5, h17, ?_⟩
  rw [h18, m18]
  unfold fr
  rw [ud_n (show 3 ≠ q by omega)]
  exact fa_c _ (fun j hj => ⟨(ud_n (by omega)).symm, (ud_n (by omega)).symm⟩)
theorem VB_one {V : Nat → Int32} {q : Nat} {v : Int32} (hV : VB V) (hq : q ≠ 3 ∧ q ≠ 5) : VB (upd V q v) := by
  obtain ⟨⟨h, h12, eh⟩, ⟨s, s10, es⟩⟩ := hV
  exact ⟨⟨h, h12, by rw [ud_n (by omega)]; exact eh⟩, ⟨s, s10, by rw [ud_n (by omega)]; exact es⟩⟩
theorem MR_house {N F F' V : Nat → Int32} {kd ln ft hd : Int32} {h : Nat} (h12 : h < 12) (eh : V 3 = nI h) (m : MR N F V) (h15 : F' 15 = F 15 + 1) (h16 : F' 16 = F 16) (h17 : F' 17 = F 17) (h18 : F' 18 = mx (F 18) ft) : MR N F' (upd (upd (upd (upd (upd (upd V (15 + 5 * h) kd) (16 + 5 * h) ln) (17 + 5 * h) ft) (18 + 5 * h) hd) (19 + 5 * h) 0) 3 (nI (h + 1))) := by
  obtain ⟨m3, m5, m17, m18⟩ := m
  have n : ∀ q, q ≠ 3 → (q < 15 + 5 * h ∨ 19 + 5 * h < q) → (upd (upd (upd (upd (upd (upd V (15 + 5 * h) kd) (16 + 5 * h) ln) (17 + 5 * h) ft) (18 + 5 * h) hd) (19 + 5 * h) 0) 3 (nI (h + 1))) q = V q := fun q a b => by
    rw [ud_n a, ud_n (by omega), ud_n (by omega), ud_n (by omega), ud_n (by omega), ud_n (by omega)]
  refine ⟨?_, ?_, ?_, ?_⟩
  · rw [ud_s, h15, ← nI_1, ← eh, ← m3]; grind
  · rw [n 5 (by omega) (by omega), h16]; exact m5
  · rw [n 0 (by omega) (by omega), h17]; exact m17
  · unfold fr
    rw [ud_s, nI_clamp (by omega), fa, if_neg (by rw [ud_n (by omega), ud_s]; decide), h18, m18]
    rw [ud_n (show 17 + 5 * h ≠ 3 by omega), ud_n (show 17 + 5 * h ≠ 19 + 5 * h by omega), ud_n (show 17 + 5 * h ≠ 18 + 5 * h by omega), ud_s]
    unfold fr
    rw [eh, nI_clamp (by omega)]
    congr 1
    exact fa_c h (fun j hj => ⟨(n _ (by omega) (by omega)).symm, (n _ (by omega) (by omega)).symm⟩)
theorem MR_stake {N F F' V : Nat → Int32} {a b x y : Int32} {s : Nat} (hV : VB V) (s10 : s < 10) (es : V 5 = nI s) (m : MR N F V) (h15 : F' 15 = F 15) (h16 : F' 16 = F 16 + 1) (h17 : F' 17 = F 17) (h18 : F' 18 = F 18) : MR N F' (upd (upd (upd (upd (upd V (95 + 4 * s) a) (96 + 4 * s) b) (97 + 4 * s) x) (98 + 4 * s) y) 5 (nI (s + 1))) := by
  obtain ⟨m3, m5, m17, m18⟩ := m
  obtain ⟨⟨h, h12, eh⟩, _⟩ := hV
  have n : ∀ q, q ≠ 5 → q < 95 → (upd (upd (upd (upd (upd V (95 + 4 * s) a) (96 + 4 * s) b) (97 + 4 * s) x) (98 + 4 * s) y) 5 (nI (s + 1))) q = V q := fun q u v => by
    rw [ud_n u, ud_n (by omega), ud_n (by omega), ud_n (by omega), ud_n (by omega)]
  refine ⟨?_, ?_, ?_, ?_⟩
  · rw [n 3 (by omega) (by omega), h15]; exact m3
  · rw [ud_s, h16, ← nI_1, ← es, ← m5]; grind
  · rw [n 0 (by omega) (by omega), h17]; exact m17
  · unfold fr
    rw [n 3 (by omega) (by omega), h18, m18]
    unfold fr
    rw [eh, nI_clamp (by omega)]
    exact fa_c h (fun j hj => ⟨(n _ (by omega) (by omega)).symm, (n _ (by omega) (by omega)).symm⟩)
theorem VB_house {V : Nat → Int32} {kd ln ft hd : Int32} {h : Nat} (h12 : h < 12) (hV : VB V) : VB (upd (upd (upd (upd (upd (upd V (15 + 5 * h) kd) (16 + 5 * h) ln) (17 + 5 * h) ft) (18 + 5 * h) hd) (19 + 5 * h) 0) 3 (nI (h + 1))) := by
  obtain ⟨_, ⟨s, s10, es⟩⟩ := hV
  exact ⟨⟨h + 1, by omega, ud_s⟩, ⟨s, s10, by rw [ud_n (by omega), ud_n (by omega), ud_n (by omega), ud_n (by omega), ud_n (by omega), ud_n (by omega)]; exact es⟩⟩
theorem VB_stake {V : Nat → Int32} {a b x y : Int32} {s : Nat} (s10 : s < 10) (hV : VB V) : VB (upd (upd (upd (upd (upd V (95 + 4 * s) a) (96 + 4 * s) b) (97 + 4 * s) x) (98 + 4 * s) y) 5 (nI (s + 1))) := by
  obtain ⟨⟨h, h12, eh⟩, _⟩ := hV
  exact ⟨⟨h, h12, by rw [ud_n (by omega), ud_n (by omega), ud_n (by omega), ud_n (by omega), ud_n (by omega)]; exact eh⟩, ⟨s + 1, by omega, ud_s⟩⟩
theorem lt_h {V : Nat → Int32} (hV : VB V) (h : V 3 < 12) : ∃ j, j < 12 ∧ V 3 = nI j := by
  obtain ⟨⟨j, h12, e⟩, _⟩ := hV
  rw [e] at h
  exact ⟨j, (nI_ltI (b := 12) (by omega) (by decide)).mp h, e⟩
theorem lt_s5 {V : Nat → Int32} (hV : VB V) (h : V 5 < 10) : ∃ j, j < 10 ∧ V 5 = nI j := by
  obtain ⟨_, ⟨j, h12, e⟩⟩ := hV
  rw [e] at h
  exact ⟨j, (nI_ltI (b := 10) (by omega) (by decide)).mp h, e⟩
/-- a house that is told well -/
theorem house_ok {c : Nat → Int32} {k e : Nat} {V : Nat → Int32} {kd : Int32} (h : (houseS c k V e kd).1.2 = false) : V 3 < 12 ∧ ∃ ln ft hd, (houseS c k V e kd).2 = (kd, ln, ft, hd, 0) ∧ (0 ≤ ln ∧ ln ≤ 8) ∧ (0 ≤ ft ∧ ft ≤ V 0 - 1) ∧ (0 ≤ hd ∧ hd ≤ 99) ∧ ft = tv c k (hk3 c k V e).1 := by
  have key : (hk4 c k V e).2 = false → V 3 < 12 ∧ (0 ≤ tv c k (hk1 c k V e).1 ∧ tv c k (hk1 c k V e).1 ≤ 8) ∧ (0 ≤ tv c k (hk3 c k V e).1 ∧ tv c k (hk3 c k V e).1 ≤ V 0 - 1) := fun h4 => by
    obtain ⟨a1, a2, _⟩ := nS_ok h4
    obtain ⟨b1, b2, _⟩ := mS_ok a1
    obtain ⟨c1, c2, _⟩ := nS_ok b1
    obtain ⟨d1, d2, _⟩ := mS_ok c1
    exact ⟨of_decide_eq_true d2, (nG_t.mp c2).2, (nG_t.mp a2).2⟩
  unfold houseS at h ⊢
  cases hH : hkH c k V e with
  | true =>
    rw [hH] at h
    obtain ⟨a1, a2, _⟩ := nS_ok h
    obtain ⟨b1, b2, _⟩ := mS_ok a1
    obtain ⟨q1, q2, q3⟩ := key b1
    exact ⟨q1, _, _, _, rfl, q2, q3, (nG_t.mp a2).2, rfl⟩
  | false =>
    rw [hH] at h
    obtain ⟨q1, q2, q3⟩ := key h
    exact ⟨q1, _, _, _, rfl, q2, q3, by decide, rfl⟩
theorem stake_ok {c : Nat → Int32} {k e : Nat} {V : Nat → Int32} (h : (stakeS c k V e).1.2 = false) : V 5 < 10 ∧ (0 ≤ tv c k (sk1 c k V e).1 ∧ tv c k (sk1 c k V e).1 ≤ 8) ∧ (0 ≤ tv c k (sk3 c k V e).1 ∧ tv c k (sk3 c k V e).1 ≤ 999) ∧ (1 ≤ tv c k (sk5 c k V e).1 ∧ tv c k (sk5 c k V e).1 ≤ 60) ∧ (0 ≤ tv c k (sk7 c k V e).1 ∧ tv c k (sk7 c k V e).1 ≤ 9999) := by
  obtain ⟨a1, a2, _⟩ := nS_ok (show (nS c k (sk7 c k V e) 0 9999).2 = false from h)
  obtain ⟨b1, _, _⟩ := mS_ok a1
  obtain ⟨c1, c2, _⟩ := nS_ok b1
  obtain ⟨d1, _, _⟩ := mS_ok c1
  obtain ⟨f1, f2, _⟩ := nS_ok d1
  obtain ⟨g1, _, _⟩ := mS_ok f1
  obtain ⟨i1, i2, _⟩ := nS_ok g1
  obtain ⟨j1, j2, _⟩ := mS_ok i1
  exact ⟨of_decide_eq_true j2, (nG_t.mp i2).2, (nG_t.mp f2).2, (nG_t.mp c2).2, (nG_t.mp a2).2⟩
/-- the stake's tail -/
theorem ms193 {E : ME} {d : Nat} {A A0 : Nat → Nat → Int32} {B : Nat → Nat → Int64} {K : MK} {c : Nat → Int32} {k n : Nat} {o2 : Option Value} {z : Int32} {s1 t2 t3 t4 t5 t6 t7 t8 : Nat × Bool} (hk : k ≤ 120) (hc : ∀ j, j < k → A 79 j = c j) (hp : ∀ j, j < k → 0 ≤ c j) (hn : n < 120) (hT : MT c k (A 74) s1) (h14 : A 74 14 = nI n) (e2 : nS c k s1 0 8 = t2) (e3 : mS c k t2 (decide (WD c k t2.1 w_from)) = t3) (e4 : nS c k t3 0 999 = t4) (e5 : mS c k t4 (decide (WD c k t4.1 w_for)) = t5) (e6 : nS c k t5 1 60 = t6) (e7 : mS c k t6 (decide (WD c k t6.1 w_went)) = t7) (e8 : nS c k t7 0 9999 = t8) (hK : ∀ F I, MT c k F t8 → (∀ q, q < 7 → F q = A 74 q) → F 14 = nI (n + 1) → F 15 = A 74 15 → F 16 = A 74 16 + 1 → F 17 = A 74 17 → F 18 = A 74 18 → I = it5 (A 81) n (13, tv c k s1.1, tv c k t3.1, tv c k t5.1, tv c k t7.1) → K none (SH, va_up (va_up A 81 I) 74 F, B)) : mSem E (d + 6) nX9_readItem (SH, A0, B) 0 0 K 193 [some (.ref 74), some (.int z), o2, none, none] [] (SH, A, B) := by
  subst e2
  subst e3
  subst e4
  subst e5
  subst e6
  subst e7
  subst e8
  refine mSem_wp MX9_readItem rfl aX9_readItem 300 [] (fun cl ax hcl hax => ?_)
  refine hcl _ _ _ _ (w_number (A := va_up A 74 (upd (A 74) 16 (A 74 16 + 1))) hk hc hp hT (fun F2 g1 g2 => ?_))
  rw [up_up]
  refine hcl _ _ _ _ (w_after27 (A := va_up A 74 F2) hk hc hp g1 (fun F3 i1 i2 => ?_))
  rw [up_up]
  refine hcl _ _ _ _ (w_after28 (A := va_up A 74 F3) hk hc hp i1 (fun F4 j1 j2 => ?_))
  rw [up_up]
  refine hcl _ _ _ _ (w_after29 (A := va_up A 74 F4) hk hc hp j1 (fun F5 l1 l2 => ?_))
  rw [up_up]
  have r : ∀ q, q < 7 ∨ 11 < q → F5 q = upd (A 74) 16 (A 74 16 + 1) q := fun q hq => (l2 q hq).trans ((j2 q hq).trans ((i2 q hq).trans (g2 q hq)))
  have r2 : ∀ q, (q < 7 ∨ 11 < q) → q ≠ 16 → F5 q = A 74 q := fun q hq h => by rw [r q hq, ud_n h]
  refine hcl _ _ _ _ (w_item (A := va_up A 74 F5) hn ((r2 14 (by omega) (by omega)).trans h14) ?_)
  have this := hK (upd F5 14 (nI (n + 1))) _ l1 (fun q hq => by rw [ud_n (by omega)]; exact r2 q (by omega) (by omega)) rfl (r2 15 (by omega) (by omega)) (r 16 (by omega)) (r2 17 (by omega) (by omega)) (r2 18 (by omega) (by omega)) rfl
  rw [← up_d (F := F5) (by decide)] at this
  exact this
/-- behind the kinds: no kind -/
theorem mi50 {E : ME} {d : Nat} {A : Nat → Nat → Int32} {B : Nat → Nat → Int64} {K : MK} {c : Nat → Int32} {k e n : Nat} {V : Nat → Int32} (hk : k ≤ 120) (hc : ∀ j, j < k → A 79 j = c j) (hp : ∀ j, j < k → 0 ≤ c j) (hn : n < 120) (hV : VB V) (hT : MT c k (A 74) (e, false)) (hM : MR (A 75) (A 74) V) (h14 : A 74 14 = nI n) (n0 : ¬ WD c k e w_house) (n1 : ¬ WD c k e w_roped) (n2 : ¬ WD c k e w_sledge) (n3 : ¬ WD c k e w_church) (n4 : ¬ WD c k e w_ferry) (n5 : ¬ WD c k e w_deep) (hK : ∀ F I, MT c k F (rdI c k V e).1 → (∀ q, q < 7 → F q = A 74 q) → ((rdI c k V e).1.2 = false → F 14 = nI (n + 1) ∧ MR (A 75) F (apI V (rdI c k V e).2) ∧ I = it5 (A 81) n (rdI c k V e).2) → K none (SH, va_up (va_up A 81 I) 74 F, B)) {A0 : Nat → Nat → Int32} {o2 : Option Value} : mSem E (d + 6) nX9_readItem (SH, A0, B) 0 0 K 50 [some (.ref 74), some (.int (-1)), o2, none, none] [] (SH, A, B) := by
  have he : e ≤ k := hT.2.2.2.2.2.2
  refine mSem_wp MX9_readItem rfl aX9_readItem 300 [193] (fun cl ax hcl hax => ?_)
  refine hcl _ _ _ _ (w_mw23 hk he hc hT.2.1 hT.2.2.1 hT.2.2.2.1 (fun y => ?_) (fun n6 => ?_))
  · refine ⟨fun h9 => absurd h9 (by decide), fun _ => ?_⟩
    rw [rd_edge y] at hK
    refine hcl _ _ _ _ (w_must (s := (e, false)) true rfl hk hc hp hT (fun F f1 f2 => ?_))
    refine hcl _ _ _ _ (w_number (A := va_up A 74 F) hk hc hp f1 (fun F2 g1 g2 => ?_))
    rw [up_up]
    have g1 : MT c k F2 (nS c k (mS c k (e, false) true) (mx 100 (F 18 + 1)) 9999) := g1
    rw [f2 18 (by omega), hM.2.2.2] at g1
    refine hcl _ _ _ _ (w_item (A := va_up (va_up A 74 F2) 74 (upd F2 17 (tv c k (te c k e)))) hn ((g2 14 (by omega)).trans ((f2 14 (by omega)).trans h14)) ?_)
    have r : ∀ q, (q < 7 ∨ 11 < q) → F2 q = A 74 q := fun q hq => (g2 q hq).trans (f2 q hq)
    have this := hK (upd (upd F2 17 (tv c k (te c k e))) 14 (nI (n + 1))) (it5 (A 81) n (edgeS c k V e).2) g1 (fun q hq => by rw [ud_n (by omega), ud_n (by omega)]; exact r q (by omega)) (fun _ => ⟨rfl, (show MR (A 75) _ (apI V (10, tv c k (te c k e), 0, 0, 0)) from by
      rw [apI_edge]
      exact MR_one hV hM (by omega) (r 15 (by omega)) (r 16 (by omega)) rfl (r 18 (by omega))), rfl⟩)
    rw [← up_d (F := upd F2 17 (tv c k (te c k e))) (by decide), ← up_up (a := 74) (F := F2) (F' := upd F2 17 (tv c k (te c k e)))] at this
    exact this
  refine ⟨fun _ => ?_, fun h9 => absurd h9 (by decide)⟩
  refine hcl _ _ _ _ (w_mw24 hk he hc hT.2.1 hT.2.2.1 hT.2.2.2.1 (fun y => ?_) (fun n7 => ?_))
  · refine ⟨fun h9 => absurd h9 (by decide), fun _ => ?_⟩
    rw [rd_pace y] at hK
    refine hcl _ _ _ _ (w_must (s := (e, false)) true rfl hk hc hp hT (fun F f1 f2 => ?_))
    refine hcl _ _ _ _ (w_number (A := va_up A 74 F) hk hc hp f1 (fun F2 g1 g2 => ?_))
    rw [up_up]
    refine hcl _ _ _ _ (w_number (A := va_up A 74 F2) hk hc hp g1 (fun F3 i1 i2 => ?_))
    rw [up_up]
    have r : ∀ q, (q < 7 ∨ 11 < q) → F3 q = A 74 q := fun q hq => (i2 q hq).trans ((g2 q hq).trans (f2 q hq))
    refine hcl _ _ _ _ (w_item (A := va_up A 74 F3) hn ((r 14 (by omega)).trans h14) ?_)
    have this := hK (upd F3 14 (nI (n + 1))) (it5 (A 81) n (paceS c k e).2) i1 (fun q hq => by rw [ud_n (by omega)]; exact r q (by omega)) (fun ok => ⟨rfl, (by
      obtain ⟨a1, a2, _⟩ := nS_ok ok
      obtain ⟨b1, b2, _⟩ := nS_ok a1
      obtain ⟨_, l0, l8⟩ := nG_t.mp b2
      obtain ⟨l, hl, el⟩ := ix_le 8 l0 l8 rfl
      unfold paceS
      rw [el, apI_pace (by omega)]
      exact MR_one hV hM (by omega) (r 15 (by omega)) (r 16 (by omega)) (by rw [ud_n (show 0 ≠ 6 + l by omega), ← hM.2.2.1]; exact r 17 (by omega)) (r 18 (by omega))), rfl⟩)
    rw [← up_d (F := F3) (by decide)] at this
    exact this
  refine ⟨fun _ => ?_, fun h9 => absurd h9 (by decide)⟩
  refine hcl _ _ _ _ (w_mw25 hk he hc hT.2.1 hT.2.2.1 hT.2.2.2.1 (fun y => ?_) (fun n8 => ?_))
  · refine ⟨fun h9 => absurd h9 (by decide), fun _ => ?_⟩
    rw [rd_warm y] at hK
    refine hcl _ _ _ _ (w_X9_readWarm hk hc hp hn hT h14 (fun F I f1 f2 f3 f4 => ?_))
    refine hK F I f1 (fun q hq => f2 q (by omega)) (fun _ => ⟨f3, ?_, f4⟩)
    unfold warmS
    rw [apI_warm]
    exact MR_one hV hM (by omega) (f2 15 (by omega)) (f2 16 (by omega)) (by rw [ud_n (show 0 ≠ 2 by omega), ← hM.2.2.1]; exact f2 17 (by omega)) (f2 18 (by omega))
  refine ⟨fun _ => ?_, fun h9 => absurd h9 (by decide)⟩
  refine hcl _ _ _ _ (w_mw26 hk he hc hT.2.1 hT.2.2.1 hT.2.2.2.1 (fun y => ?_) (fun n9 => ?_))
  · refine ⟨fun h9 => absurd h9 (by decide), fun _ => ?_⟩
    rw [rd_stake y] at hK
    have go : ∀ b, b = decide (V 5 < 10) → ∀ F, MT c k F (mS c k (e, false) b) → RS (A 74) F → mSem E (d + 6) nX9_readItem (SH, A0, B) 0 0 K 193 [some (.ref 74), some (.int (-1)), o2, none, none] [] (SH, va_up A 74 F, B) := fun b hb F f1 f2 => by
      subst hb
      refine ms193 (A := va_up A 74 F) (s1 := sk1 c k V e) (t2 := sk2 c k V e) (t3 := sk3 c k V e) (t4 := sk4 c k V e) (t5 := sk5 c k V e) (t6 := sk6 c k V e) (t7 := sk7 c k V e) (t8 := sk8 c k V e) hk hc hp hn f1 ((f2 14 (by omega)).trans h14) rfl rfl rfl rfl rfl rfl rfl (fun F2 I g1 g2 g3 g4 g5 g6 g7 g8 => ?_)
      have this := hK F2 I g1 (fun q hq => (g2 q hq).trans (f2 q (by omega))) (fun ok => ⟨g3, (by
        obtain ⟨q1, _⟩ := stake_ok ok
        obtain ⟨s, s10, es⟩ := lt_s5 hV q1
        unfold stakeS
        rw [apI_stake (by omega) es]
        exact MR_stake hV s10 es hM (g4.trans (f2 15 (by omega))) (g5.trans (show F 16 + 1 = _ by rw [f2 16 (by omega)])) (g6.trans (f2 17 (by omega))) (g7.trans (f2 18 (by omega)))), g8⟩)
      rw [← up_d (F := F) (by decide)] at this
      exact this
    refine ⟨vl 5 rfl rfl, ?_⟩
    refine ⟨fun (z : 10 ≤ A 75 5 + A 74 16) => ?_, fun (z : ¬ 10 ≤ A 75 5 + A 74 16) => ?_⟩
    · rw [hM.2.1] at z
      refine hcl _ _ _ _ (w_must (s := (e, false)) false rfl hk hc hp hT (fun F f1 f2 => ?_))
      exact hax _ _ _ _ (go false (decide_eq_false (show ¬ V 5 < 10 by clear hK go hcl hax; grind)).symm F f1 f2)
    · rw [hM.2.1] at z
      refine hcl _ _ _ _ (w_must (s := (e, false)) true rfl hk hc hp hT (fun F f1 f2 => ?_))
      exact hax _ _ _ _ (go true (decide_eq_true (show V 5 < 10 by clear hK go hcl hax; grind)).symm F f1 f2)
  refine ⟨fun _ => ?_, fun h9 => absurd h9 (by decide)⟩
  rw [rd_none n0 n1 n2 n3 n4 n5 n6 n7 n8 n9] at hK
  refine hcl _ _ _ _ (w_must (s := (e, false)) false rfl hk hc hp hT (fun F f1 f2 => ?_))
  refine hax _ _ _ _ (ms193 (A := va_up A 74 F) (s1 := (e, true)) hk hc hp hn f1 ((f2 14 (by omega)).trans h14) rfl rfl rfl rfl rfl rfl rfl (fun F2 I g1 g2 g3 g4 g5 g6 g7 g8 => ?_))
  have this := hK F2 I g1 (fun q hq => (g2 q hq).trans (f2 q (by omega))) (fun ok => by cases ok)
  rw [← up_d (F := F) (by decide)] at this
  exact this
theorem mi38 {E : ME} {d : Nat} {A : Nat → Nat → Int32} {B : Nat → Nat → Int64} {K : MK} {c : Nat → Int32} {k e n : Nat} {V : Nat → Int32} (hk : k ≤ 120) (hc : ∀ j, j < k → A 79 j = c j) (hp : ∀ j, j < k → 0 ≤ c j) (hn : n < 120) (hV : VB V) (hT : MT c k (A 74) (e, false)) (hM : MR (A 75) (A 74) V) (h14 : A 74 14 = nI n) (hK : ∀ F I, MT c k F (rdI c k V e).1 → (∀ q, q < 7 → F q = A 74 q) → ((rdI c k V e).1.2 = false → F 14 = nI (n + 1) ∧ MR (A 75) F (apI V (rdI c k V e).2) ∧ I = it5 (A 81) n (rdI c k V e).2) → K none (SH, va_up (va_up A 81 I) 74 F, B)) {A0 : Nat → Nat → Int32} {o2 : Option Value} {kd : Int32} (k0 : 0 ≤ kd) (k5 : kd ≤ 5) (hr : rdI c k V e = houseS c k V e kd) : mSem E (d + 7) nX9_readItem (SH, A0, B) 0 0 K 38 [some (.ref 74), some (.int kd), o2, none, none] [] (SH, A, B) := by
  rw [hr] at hK
  refine mSem_wp MX9_readItem rfl aX9_readItem 300 [] (fun cl ax hcl hax => ?_)
  refine ⟨fun (z : kd < 0) => absurd z (by clear hK hcl hax; grind), fun _ => ?_⟩
  refine hcl _ _ _ _ (w_X9_readHouse hk hc hp hn hT hM h14 (fun F I f1 f2 f3 f4 f5 f6 f7 f8 => ?_))
  refine hK F I f1 f2 (fun ok => ⟨f3, ?_, f8⟩)
  obtain ⟨q1, ln, ft, hd, q2, _, _, _, q6⟩ := house_ok ok
  obtain ⟨h, h12, eh⟩ := lt_h hV q1
  rw [q2, apI_house k0 k5 (by omega) eh]
  exact MR_house h12 eh hM f4 f5 f6 (by rw [f7, q6])
theorem w_X9_readItem {E : ME} {d : Nat} {A : Nat → Nat → Int32} {B : Nat → Nat → Int64} {K : MK} {c : Nat → Int32} {k e n : Nat} {V : Nat → Int32} (hk : k ≤ 120) (hc : ∀ j, j < k → A 79 j = c j) (hp : ∀ j, j < k → 0 ≤ c j) (hn : n < 120) (hV : VB V) (hT : MT c k (A 74) (e, false)) (hM : MR (A 75) (A 74) V) (h14 : A 74 14 = nI n) (hK : ∀ F I, MT c k F (rdI c k V e).1 → (∀ q, q < 7 → F q = A 74 q) → ((rdI c k V e).1.2 = false → F 14 = nI (n + 1) ∧ MR (A 75) F (apI V (rdI c k V e).2) ∧ I = it5 (A 81) n (rdI c k V e).2) → K none (SH, va_up (va_up A 81 I) 74 F, B)) : mCall E (d + 7) nX9_readItem [.ref 74] (SH, A, B) K := by
  have he : e ≤ k := hT.2.2.2.2.2.2
  by_cases y : WD c k e w_house
  · refine mCall_sem MX9_readItem rfl rfl (Or.inl ⟨rfl, rfl, rfl⟩) rfl (mSem_wp MX9_readItem rfl aX9_readItem 300 [38] (fun cl ax hcl hax => ?_))
    refine ⟨fun h9 => absurd h9 (by decide), fun _ => ?_⟩
    refine ⟨vp_in_nI (n := 0) (N := 6) (by decide) (by decide), ?_⟩
    refine hcl _ _ _ _ (w_mw15 hk he hc hT.2.1 hT.2.2.1 hT.2.2.2.1 (fun _ => ?_) (fun q => absurd y q))
    refine ⟨fun h9 => absurd h9 (by decide), fun _ => ?_⟩
    refine ⟨fun h9 => absurd h9 (by decide), fun _ => ?_⟩
    refine ⟨vp_in_nI (n := 1) (N := 6) (by decide) (by decide), ?_⟩
    refine hcl _ _ _ _ (w_mw16 hk he hc hT.2.1 hT.2.2.1 hT.2.2.2.1 (fun q => (WDx y q (by decide) (by decide) (by decide)).elim) (fun _ => ?_))
    refine ⟨fun _ => ?_, fun h9 => absurd h9 (by decide)⟩
    refine ⟨fun h9 => absurd h9 (by decide), fun _ => ?_⟩
    refine ⟨vp_in_nI (n := 2) (N := 6) (by decide) (by decide), ?_⟩
    refine hcl _ _ _ _ (w_mw17 hk he hc hT.2.1 hT.2.2.1 hT.2.2.2.1 (fun q => (WDx y q (by decide) (by decide) (by decide)).elim) (fun _ => ?_))
    refine ⟨fun _ => ?_, fun h9 => absurd h9 (by decide)⟩
    refine ⟨fun h9 => absurd h9 (by decide), fun _ => ?_⟩
    refine ⟨vp_in_nI (n := 3) (N := 6) (by decide) (by decide), ?_⟩
    refine hcl _ _ _ _ (w_mw18 hk he hc hT.2.1 hT.2.2.1 hT.2.2.2.1 (fun q => (WDx y q (by decide) (by decide) (by decide)).elim) (fun _ => ?_))
    refine ⟨fun _ => ?_, fun h9 => absurd h9 (by decide)⟩
    refine ⟨fun h9 => absurd h9 (by decide), fun _ => ?_⟩
    refine ⟨vp_in_nI (n := 4) (N := 6) (by decide) (by decide), ?_⟩
    refine hcl _ _ _ _ (w_mw19 hk he hc hT.2.1 hT.2.2.1 hT.2.2.2.1 (fun q => (WDx y q (by decide) (by decide) (by decide)).elim) (fun _ => ?_))
    refine ⟨fun _ => ?_, fun h9 => absurd h9 (by decide)⟩
    refine ⟨fun h9 => absurd h9 (by decide), fun _ => ?_⟩
    refine ⟨vp_in_nI (n := 5) (N := 6) (by decide) (by decide), ?_⟩
    refine hcl _ _ _ _ (w_mw20 hk he hc hT.2.1 hT.2.2.1 hT.2.2.2.1 (fun q => (WDx y q (by decide) (by decide) (by decide)).elim) (fun _ => ?_))
    refine ⟨fun _ => ?_, fun h9 => absurd h9 (by decide)⟩
    refine ⟨fun _ => ?_, fun h9 => absurd h9 (by decide)⟩
    exact hax _ _ _ _ (mi38 (o2 := some (.int 6)) (kd := 0) hk hc hp hn hV hT hM h14 hK (by decide) (by decide) (rd_house y))
  have n0 := y
  clear y
  by_cases y : WD c k e w_roped
  · refine mCall_sem MX9_readItem rfl rfl (Or.inl ⟨rfl, rfl, rfl⟩) rfl (mSem_wp MX9_readItem rfl aX9_readItem 300 [38] (fun cl ax hcl hax => ?_))
    refine ⟨fun h9 => absurd h9 (by decide), fun _ => ?_⟩
    refine ⟨vp_in_nI (n := 0) (N := 6) (by decide) (by decide), ?_⟩
    refine hcl _ _ _ _ (w_mw15 hk he hc hT.2.1 hT.2.2.1 hT.2.2.2.1 (fun q => absurd q n0) (fun _ => ?_))
    refine ⟨fun _ => ?_, fun h9 => absurd h9 (by decide)⟩
    refine ⟨fun h9 => absurd h9 (by decide), fun _ => ?_⟩
    refine ⟨vp_in_nI (n := 1) (N := 6) (by decide) (by decide), ?_⟩
    refine hcl _ _ _ _ (w_mw16 hk he hc hT.2.1 hT.2.2.1 hT.2.2.2.1 (fun _ => ?_) (fun q => absurd y q))
    refine ⟨fun h9 => absurd h9 (by decide), fun _ => ?_⟩
    refine ⟨fun h9 => absurd h9 (by decide), fun _ => ?_⟩
    refine ⟨vp_in_nI (n := 2) (N := 6) (by decide) (by decide), ?_⟩
    refine hcl _ _ _ _ (w_mw17 hk he hc hT.2.1 hT.2.2.1 hT.2.2.2.1 (fun q => (WDx y q (by decide) (by decide) (by decide)).elim) (fun _ => ?_))
    refine ⟨fun _ => ?_, fun h9 => absurd h9 (by decide)⟩
    refine ⟨fun h9 => absurd h9 (by decide), fun _ => ?_⟩
    refine ⟨vp_in_nI (n := 3) (N := 6) (by decide) (by decide), ?_⟩
    refine hcl _ _ _ _ (w_mw18 hk he hc hT.2.1 hT.2.2.1 hT.2.2.2.1 (fun q => (WDx y q (by decide) (by decide) (by decide)).elim) (fun _ => ?_))
    refine ⟨fun _ => ?_, fun h9 => absurd h9 (by decide)⟩
    refine ⟨fun h9 => absurd h9 (by decide), fun _ => ?_⟩
    refine ⟨vp_in_nI (n := 4) (N := 6) (by decide) (by decide), ?_⟩
    refine hcl _ _ _ _ (w_mw19 hk he hc hT.2.1 hT.2.2.1 hT.2.2.2.1 (fun q => (WDx y q (by decide) (by decide) (by decide)).elim) (fun _ => ?_))
    refine ⟨fun _ => ?_, fun h9 => absurd h9 (by decide)⟩
    refine ⟨fun h9 => absurd h9 (by decide), fun _ => ?_⟩
    refine ⟨vp_in_nI (n := 5) (N := 6) (by decide) (by decide), ?_⟩
    refine hcl _ _ _ _ (w_mw20 hk he hc hT.2.1 hT.2.2.1 hT.2.2.2.1 (fun q => (WDx y q (by decide) (by decide) (by decide)).elim) (fun _ => ?_))
    refine ⟨fun _ => ?_, fun h9 => absurd h9 (by decide)⟩
    refine ⟨fun _ => ?_, fun h9 => absurd h9 (by decide)⟩
    exact hax _ _ _ _ (mi38 (o2 := some (.int 6)) (kd := 1) hk hc hp hn hV hT hM h14 hK (by decide) (by decide) (rd_roped y))
  have n1 := y
  clear y
  by_cases y : WD c k e w_sledge
  · refine mCall_sem MX9_readItem rfl rfl (Or.inl ⟨rfl, rfl, rfl⟩) rfl (mSem_wp MX9_readItem rfl aX9_readItem 300 [38] (fun cl ax hcl hax => ?_))
    refine ⟨fun h9 => absurd h9 (by decide), fun _ => ?_⟩
    refine ⟨vp_in_nI (n := 0) (N := 6) (by decide) (by decide), ?_⟩
    refine hcl _ _ _ _ (w_mw15 hk he hc hT.2.1 hT.2.2.1 hT.2.2.2.1 (fun q => absurd q n0) (fun _ => ?_))
    refine ⟨fun _ => ?_, fun h9 => absurd h9 (by decide)⟩
    refine ⟨fun h9 => absurd h9 (by decide), fun _ => ?_⟩
    refine ⟨vp_in_nI (n := 1) (N := 6) (by decide) (by decide), ?_⟩
    refine hcl _ _ _ _ (w_mw16 hk he hc hT.2.1 hT.2.2.1 hT.2.2.2.1 (fun q => absurd q n1) (fun _ => ?_))
    refine ⟨fun _ => ?_, fun h9 => absurd h9 (by decide)⟩
    refine ⟨fun h9 => absurd h9 (by decide), fun _ => ?_⟩
    refine ⟨vp_in_nI (n := 2) (N := 6) (by decide) (by decide), ?_⟩
    refine hcl _ _ _ _ (w_mw17 hk he hc hT.2.1 hT.2.2.1 hT.2.2.2.1 (fun _ => ?_) (fun q => absurd y q))
    refine ⟨fun h9 => absurd h9 (by decide), fun _ => ?_⟩
    refine ⟨fun h9 => absurd h9 (by decide), fun _ => ?_⟩
    refine ⟨vp_in_nI (n := 3) (N := 6) (by decide) (by decide), ?_⟩
    refine hcl _ _ _ _ (w_mw18 hk he hc hT.2.1 hT.2.2.1 hT.2.2.2.1 (fun q => (WDx y q (by decide) (by decide) (by decide)).elim) (fun _ => ?_))
    refine ⟨fun _ => ?_, fun h9 => absurd h9 (by decide)⟩
    refine ⟨fun h9 => absurd h9 (by decide), fun _ => ?_⟩
    refine ⟨vp_in_nI (n := 4) (N := 6) (by decide) (by decide), ?_⟩
    refine hcl _ _ _ _ (w_mw19 hk he hc hT.2.1 hT.2.2.1 hT.2.2.2.1 (fun q => (WDx y q (by decide) (by decide) (by decide)).elim) (fun _ => ?_))
    refine ⟨fun _ => ?_, fun h9 => absurd h9 (by decide)⟩
    refine ⟨fun h9 => absurd h9 (by decide), fun _ => ?_⟩
    refine ⟨vp_in_nI (n := 5) (N := 6) (by decide) (by decide), ?_⟩
    refine hcl _ _ _ _ (w_mw20 hk he hc hT.2.1 hT.2.2.1 hT.2.2.2.1 (fun q => (WDx y q (by decide) (by decide) (by decide)).elim) (fun _ => ?_))
    refine ⟨fun _ => ?_, fun h9 => absurd h9 (by decide)⟩
    refine ⟨fun _ => ?_, fun h9 => absurd h9 (by decide)⟩
    exact hax _ _ _ _ (mi38 (o2 := some (.int 6)) (kd := 2) hk hc hp hn hV hT hM h14 hK (by decide) (by decide) (rd_sledge y))
  have n2 := y
  clear y
  by_cases y : WD c k e w_church
  · refine mCall_sem MX9_readItem rfl rfl (Or.inl ⟨rfl, rfl, rfl⟩) rfl (mSem_wp MX9_readItem rfl aX9_readItem 300 [38] (fun cl ax hcl hax => ?_))
    refine ⟨fun h9 => absurd h9 (by decide), fun _ => ?_⟩
    refine ⟨vp_in_nI (n := 0) (N := 6) (by decide) (by decide), ?_⟩
    refine hcl _ _ _ _ (w_mw15 hk he hc hT.2.1 hT.2.2.1 hT.2.2.2.1 (fun q => absurd q n0) (fun _ => ?_))
    refine ⟨fun _ => ?_, fun h9 => absurd h9 (by decide)⟩
    refine ⟨fun h9 => absurd h9 (by decide), fun _ => ?_⟩
    refine ⟨vp_in_nI (n := 1) (N := 6) (by decide) (by decide), ?_⟩
    refine hcl _ _ _ _ (w_mw16 hk he hc hT.2.1 hT.2.2.1 hT.2.2.2.1 (fun q => absurd q n1) (fun _ => ?_))
    refine ⟨fun _ => ?_, fun h9 => absurd h9 (by decide)⟩
    refine ⟨fun h9 => absurd h9 (by decide), fun _ => ?_⟩
    refine ⟨vp_in_nI (n := 2) (N := 6) (by decide) (by decide), ?_⟩
    refine hcl _ _ _ _ (w_mw17 hk he hc hT.2.1 hT.2.2.1 hT.2.2.2.1 (fun q => absurd q n2) (fun _ => ?_))
    refine ⟨fun _ => ?_, fun h9 => absurd h9 (by decide)⟩
    refine ⟨fun h9 => absurd h9 (by decide), fun _ => ?_⟩
    refine ⟨vp_in_nI (n := 3) (N := 6) (by decide) (by decide), ?_⟩
    refine hcl _ _ _ _ (w_mw18 hk he hc hT.2.1 hT.2.2.1 hT.2.2.2.1 (fun _ => ?_) (fun q => absurd y q))
    refine ⟨fun h9 => absurd h9 (by decide), fun _ => ?_⟩
    refine ⟨fun h9 => absurd h9 (by decide), fun _ => ?_⟩
    refine ⟨vp_in_nI (n := 4) (N := 6) (by decide) (by decide), ?_⟩
    refine hcl _ _ _ _ (w_mw19 hk he hc hT.2.1 hT.2.2.1 hT.2.2.2.1 (fun q => (WDx y q (by decide) (by decide) (by decide)).elim) (fun _ => ?_))
    refine ⟨fun _ => ?_, fun h9 => absurd h9 (by decide)⟩
    refine ⟨fun h9 => absurd h9 (by decide), fun _ => ?_⟩
    refine ⟨vp_in_nI (n := 5) (N := 6) (by decide) (by decide), ?_⟩
    refine hcl _ _ _ _ (w_mw20 hk he hc hT.2.1 hT.2.2.1 hT.2.2.2.1 (fun q => (WDx y q (by decide) (by decide) (by decide)).elim) (fun _ => ?_))
    refine ⟨fun _ => ?_, fun h9 => absurd h9 (by decide)⟩
    refine ⟨fun _ => ?_, fun h9 => absurd h9 (by decide)⟩
    exact hax _ _ _ _ (mi38 (o2 := some (.int 6)) (kd := 3) hk hc hp hn hV hT hM h14 hK (by decide) (by decide) (rd_church y))
  have n3 := y
  clear y
  by_cases y : WD c k e w_ferry
  · refine mCall_sem MX9_readItem rfl rfl (Or.inl ⟨rfl, rfl, rfl⟩) rfl (mSem_wp MX9_readItem rfl aX9_readItem 300 [38] (fun cl ax hcl hax => ?_))
    refine ⟨fun h9 => absurd h9 (by decide), fun _ => ?_⟩
    refine ⟨vp_in_nI (n := 0) (N := 6) (by decide) (by decide), ?_⟩
    refine hcl _ _ _ _ (w_mw15 hk he hc hT.2.1 hT.2.2.1 hT.2.2.2.1 (fun q => absurd q n0) (fun _ => ?_))
    refine ⟨fun _ => ?_, fun h9 => absurd h9 (by decide)⟩
    refine ⟨fun h9 => absurd h9 (by decide), fun _ => ?_⟩
    refine ⟨vp_in_nI (n := 1) (N := 6) (by decide) (by decide), ?_⟩
    refine hcl _ _ _ _ (w_mw16 hk he hc hT.2.1 hT.2.2.1 hT.2.2.2.1 (fun q => absurd q n1) (fun _ => ?_))
    refine ⟨fun _ => ?_, fun h9 => absurd h9 (by decide)⟩
    refine ⟨fun h9 => absurd h9 (by decide), fun _ => ?_⟩
    refine ⟨vp_in_nI (n := 2) (N := 6) (by decide) (by decide), ?_⟩
    refine hcl _ _ _ _ (w_mw17 hk he hc hT.2.1 hT.2.2.1 hT.2.2.2.1 (fun q => absurd q n2) (fun _ => ?_))
    refine ⟨fun _ => ?_, fun h9 => absurd h9 (by decide)⟩
    refine ⟨fun h9 => absurd h9 (by decide), fun _ => ?_⟩
    refine ⟨vp_in_nI (n := 3) (N := 6) (by decide) (by decide), ?_⟩
    refine hcl _ _ _ _ (w_mw18 hk he hc hT.2.1 hT.2.2.1 hT.2.2.2.1 (fun q => absurd q n3) (fun _ => ?_))
    refine ⟨fun _ => ?_, fun h9 => absurd h9 (by decide)⟩
    refine ⟨fun h9 => absurd h9 (by decide), fun _ => ?_⟩
    refine ⟨vp_in_nI (n := 4) (N := 6) (by decide) (by decide), ?_⟩
    refine hcl _ _ _ _ (w_mw19 hk he hc hT.2.1 hT.2.2.1 hT.2.2.2.1 (fun _ => ?_) (fun q => absurd y q))
    refine ⟨fun h9 => absurd h9 (by decide), fun _ => ?_⟩
    refine ⟨fun h9 => absurd h9 (by decide), fun _ => ?_⟩
    refine ⟨vp_in_nI (n := 5) (N := 6) (by decide) (by decide), ?_⟩
    refine hcl _ _ _ _ (w_mw20 hk he hc hT.2.1 hT.2.2.1 hT.2.2.2.1 (fun q => (WDx y q (by decide) (by decide) (by decide)).elim) (fun _ => ?_))
    refine ⟨fun _ => ?_, fun h9 => absurd h9 (by decide)⟩
    refine ⟨fun _ => ?_, fun h9 => absurd h9 (by decide)⟩
    exact hax _ _ _ _ (mi38 (o2 := some (.int 6)) (kd := 4) hk hc hp hn hV hT hM h14 hK (by decide) (by decide) (rd_ferry y))
  have n4 := y
  clear y
  by_cases y : WD c k e w_deep
  · refine mCall_sem MX9_readItem rfl rfl (Or.inl ⟨rfl, rfl, rfl⟩) rfl (mSem_wp MX9_readItem rfl aX9_readItem 300 [38] (fun cl ax hcl hax => ?_))
    refine ⟨fun h9 => absurd h9 (by decide), fun _ => ?_⟩
    refine ⟨vp_in_nI (n := 0) (N := 6) (by decide) (by decide), ?_⟩
    refine hcl _ _ _ _ (w_mw15 hk he hc hT.2.1 hT.2.2.1 hT.2.2.2.1 (fun q => absurd q n0) (fun _ => ?_))
    refine ⟨fun _ => ?_, fun h9 => absurd h9 (by decide)⟩
    refine ⟨fun h9 => absurd h9 (by decide), fun _ => ?_⟩
    refine ⟨vp_in_nI (n := 1) (N := 6) (by decide) (by decide), ?_⟩
    refine hcl _ _ _ _ (w_mw16 hk he hc hT.2.1 hT.2.2.1 hT.2.2.2.1 (fun q => absurd q n1) (fun _ => ?_))
    refine ⟨fun _ => ?_, fun h9 => absurd h9 (by decide)⟩
    refine ⟨fun h9 => absurd h9 (by decide), fun _ => ?_⟩
    refine ⟨vp_in_nI (n := 2) (N := 6) (by decide) (by decide), ?_⟩
    refine hcl _ _ _ _ (w_mw17 hk he hc hT.2.1 hT.2.2.1 hT.2.2.2.1 (fun q => absurd q n2) (fun _ => ?_))
    refine ⟨fun _ => ?_, fun h9 => absurd h9 (by decide)⟩
    refine ⟨fun h9 => absurd h9 (by decide), fun _ => ?_⟩
    refine ⟨vp_in_nI (n := 3) (N := 6) (by decide) (by decide), ?_⟩
    refine hcl _ _ _ _ (w_mw18 hk he hc hT.2.1 hT.2.2.1 hT.2.2.2.1 (fun q => absurd q n3) (fun _ => ?_))
    refine ⟨fun _ => ?_, fun h9 => absurd h9 (by decide)⟩
    refine ⟨fun h9 => absurd h9 (by decide), fun _ => ?_⟩
    refine ⟨vp_in_nI (n := 4) (N := 6) (by decide) (by decide), ?_⟩
    refine hcl _ _ _ _ (w_mw19 hk he hc hT.2.1 hT.2.2.1 hT.2.2.2.1 (fun q => absurd q n4) (fun _ => ?_))
    refine ⟨fun _ => ?_, fun h9 => absurd h9 (by decide)⟩
    refine ⟨fun h9 => absurd h9 (by decide), fun _ => ?_⟩
    refine ⟨vp_in_nI (n := 5) (N := 6) (by decide) (by decide), ?_⟩
    refine hcl _ _ _ _ (w_mw20 hk he hc hT.2.1 hT.2.2.1 hT.2.2.2.1 (fun _ => ?_) (fun q => absurd y q))
    refine ⟨fun h9 => absurd h9 (by decide), fun _ => ?_⟩
    refine ⟨fun _ => ?_, fun h9 => absurd h9 (by decide)⟩
    exact hax _ _ _ _ (mi38 (o2 := some (.int 6)) (kd := 5) hk hc hp hn hV hT hM h14 hK (by decide) (by decide) (rd_deep y))
  have n5 := y
  clear y
  refine mCall_sem MX9_readItem rfl rfl (Or.inl ⟨rfl, rfl, rfl⟩) rfl (mSem_wp MX9_readItem rfl aX9_readItem 300 [50] (fun cl ax hcl hax => ?_))
  refine ⟨fun h9 => absurd h9 (by decide), fun _ => ?_⟩
  refine ⟨vp_in_nI (n := 0) (N := 6) (by decide) (by decide), ?_⟩
  refine hcl _ _ _ _ (w_mw15 hk he hc hT.2.1 hT.2.2.1 hT.2.2.2.1 (fun q => absurd q n0) (fun _ => ?_))
  refine ⟨fun _ => ?_, fun h9 => absurd h9 (by decide)⟩
  refine ⟨fun h9 => absurd h9 (by decide), fun _ => ?_⟩
  refine ⟨vp_in_nI (n := 1) (N := 6) (by decide) (by decide), ?_⟩
  refine hcl _ _ _ _ (w_mw16 hk he hc hT.2.1 hT.2.2.1 hT.2.2.2.1 (fun q => absurd q n1) (fun _ => ?_))
  refine ⟨fun _ => ?_, fun h9 => absurd h9 (by decide)⟩
  refine ⟨fun h9 => absurd h9 (by decide), fun _ => ?_⟩
  refine ⟨vp_in_nI (n := 2) (N := 6) (by decide) (by decide), ?_⟩
  refine hcl _ _ _ _ (w_mw17 hk he hc hT.2.1 hT.2.2.1 hT.2.2.2.1 (fun q => absurd q n2) (fun _ => ?_))
  refine ⟨fun _ => ?_, fun h9 => absurd h9 (by decide)⟩
  refine ⟨fun h9 => absurd h9 (by decide), fun _ => ?_⟩
  refine ⟨vp_in_nI (n := 3) (N := 6) (by decide) (by decide), ?_⟩
  refine hcl _ _ _ _ (w_mw18 hk he hc hT.2.1 hT.2.2.1 hT.2.2.2.1 (fun q => absurd q n3) (fun _ => ?_))
  refine ⟨fun _ => ?_, fun h9 => absurd h9 (by decide)⟩
  refine ⟨fun h9 => absurd h9 (by decide), fun _ => ?_⟩
  refine ⟨vp_in_nI (n := 4) (N := 6) (by decide) (by decide), ?_⟩
  refine hcl _ _ _ _ (w_mw19 hk he hc hT.2.1 hT.2.2.1 hT.2.2.2.1 (fun q => absurd q n4) (fun _ => ?_))
  refine ⟨fun _ => ?_, fun h9 => absurd h9 (by decide)⟩
  refine ⟨fun h9 => absurd h9 (by decide), fun _ => ?_⟩
  refine ⟨vp_in_nI (n := 5) (N := 6) (by decide) (by decide), ?_⟩
  refine hcl _ _ _ _ (w_mw20 hk he hc hT.2.1 hT.2.2.1 hT.2.2.2.1 (fun q => absurd q n5) (fun _ => ?_))
  refine ⟨fun _ => ?_, fun h9 => absurd h9 (by decide)⟩
  refine ⟨fun _ => ?_, fun h9 => absurd h9 (by decide)⟩
  refine ⟨fun _ => ?_, fun h9 => absurd h9 (by decide)⟩
  exact hax _ _ _ _ (mi50 (d := d + 1) (o2 := some (.int 6)) hk hc hp hn hV hT hM h14 n0 n1 n2 n3 n4 n5 hK)
