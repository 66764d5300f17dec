/-! X reads houses and stakes -/
theorem hs4 {c : Nat → Int32} {k e : Nat} {V : Nat → Int32} {kd : Int32} (h : (hk4 c k V e).2 = true) : (houseS c k V e kd).1 = hk4 c k V e := by
  unfold houseS hkH
  rw [h]
  rfl
theorem hs3 {c : Nat → Int32} {k e : Nat} {V : Nat → Int32} {kd : Int32} (h : (hk3 c k V e).2 = true) : (houseS c k V e kd).1 = hk3 c k V e := by
  have e1 : hk4 c k V e = hk3 c k V e := nS_p h
  rw [hs4 (by rw [e1]; exact h), e1]
theorem hs2 {c : Nat → Int32} {k e : Nat} {V : Nat → Int32} {kd : Int32} (h : (hk2 c k V e).2 = true) : (houseS c k V e kd).1 = hk2 c k V e := by
  have e1 : hk3 c k V e = hk2 c k V e := mS_p h
  rw [hs3 (by rw [e1]; exact h), e1]
theorem hs1 {c : Nat → Int32} {k e : Nat} {V : Nat → Int32} {kd : Int32} (h : (hk1 c k V e).2 = true) : (houseS c k V e kd).1 = hk1 c k V e := by
  have e1 : hk2 c k V e = hk1 c k V e := nS_p h
  rw [hs2 (by rw [e1]; exact h), e1]
theorem ss7 {c : Nat → Int32} {k e : Nat} {V : Nat → Int32} (h : (sk7 c k V e).2 = true) : (stakeS c k V e).1 = sk7 c k V e := nS_p h
theorem ss6 {c : Nat → Int32} {k e : Nat} {V : Nat → Int32} (h : (sk6 c k V e).2 = true) : (stakeS c k V e).1 = sk6 c k V e := by
  have e1 : sk7 c k V e = sk6 c k V e := mS_p h
  rw [ss7 (by rw [e1]; exact h), e1]
theorem ss5 {c : Nat → Int32} {k e : Nat} {V : Nat → Int32} (h : (sk5 c k V e).2 = true) : (stakeS c k V e).1 = sk5 c k V e := by
  have e1 : sk6 c k V e = sk5 c k V e := nS_p h
  rw [ss6 (by rw [e1]; exact h), e1]
theorem ss4 {c : Nat → Int32} {k e : Nat} {V : Nat → Int32} (h : (sk4 c k V e).2 = true) : (stakeS c k V e).1 = sk4 c k V e := by
  have e1 : sk5 c k V e = sk4 c k V e := mS_p h
  rw [ss5 (by rw [e1]; exact h), e1]
theorem ss3 {c : Nat → Int32} {k e : Nat} {V : Nat → Int32} (h : (sk3 c k V e).2 = true) : (stakeS c k V e).1 = sk3 c k V e := by
  have e1 : sk4 c k V e = sk3 c k V e := nS_p h
  rw [ss4 (by rw [e1]; exact h), e1]
theorem ss2 {c : Nat → Int32} {k e : Nat} {V : Nat → Int32} (h : (sk2 c k V e).2 = true) : (stakeS c k V e).1 = sk2 c k V e := by
  have e1 : sk3 c k V e = sk2 c k V e := mS_p h
  rw [ss3 (by rw [e1]; exact h), e1]
theorem ss1 {c : Nat → Int32} {k e : Nat} {V : Nat → Int32} (h : (sk1 c k V e).2 = true) : (stakeS c k V e).1 = sk1 c k V e := by
  have e1 : sk2 c k V e = sk1 c k V e := nS_p h
  rw [ss2 (by rw [e1]; exact h), e1]
theorem w_readHouse {E : ME} {d : Nat} {A : Nat → Nat → Int32} {B : Nat → Nat → Int64} {K : MK} {c : Nat → Int32} {k e : Nat} {V : Nat → Int32} {kd : Int32} (q0 : 0 ≤ kd) (q5 : kd ≤ 5) (hk : k ≤ 120) (he : e ≤ k) (hc : ∀ j, j < k → A 63 j = c j) (hT : TX c k (A 45) e) (hD : DR A V) (hK : XK c k A B V (houseS c k V e kd) K) : mCall E (d + 6) nX6_readHouse [.ref 45, .int kd] (SH, A, B) K := by
  have he1 := (tk_b c he).2.2.1
  have he2 := (tk_b c he1).2.2.1
  have he3 := (tk_b c he2).2.2.1
  have he4 := (tk_b c he3).2.2.1
  have he5 := (tk_b c he4).2.2.1
  have he6 := (tk_b c he5).2.2.1
  have hV0 : A 47 0 = V 0 := hD.1.1.1
  have hVB := DR_VB hD
  obtain ⟨kk, k12, kx, k3, kh⟩ := hD.2.1
  have kx : A 49 0 = nI kk := kx
  have k3 : V 3 = nI kk := k3
  refine mCall_sem MX6_readHouse rfl rfl (Or.inl ⟨rfl, rfl, rfl⟩) rfl (mSem_wp MX6_readHouse rfl aX6_readHouse 300 [] (fun cl ax hcl hax => ?_))
  refine ⟨fun (z : nI 12 ≤ A 49 0) => ?_, fun (z : ¬ nI 12 ≤ A 49 0) => ?_⟩
  · rw [kx, nI_leI (by omega) (by omega)] at z
    have r1 : hk1 c k V e = (e, true) := by
      unfold hk1
      rw [decide_eq_false (show ¬ V 3 < 12 from by rw [k3]; exact fun y => absurd ((nI_ltI (b := 12) (by omega) (by decide)).mp y) (by omega))]
      rfl
    exact ⟨rfl, XK_0 hK ((hs1 (by rw [r1])).trans r1) AG_r hT⟩
  rw [kx, nI_leI (by omega) (by omega)] at z
  have r1 : hk1 c k V e = (te c k e, false) := by
    unfold hk1
    rw [decide_eq_true (show V 3 < 12 from by rw [k3]; exact (nI_ltI (b := 12) (by omega) (by decide)).mpr (by omega))]
    rfl
  refine hcl _ _ _ _ (w_nin hk he hc hT (fun g F hF => ?_) (fun g F hF => ?_))
  rotate_left
  · refine ⟨fun h9 => absurd h9 (by decide), fun _ => ?_⟩
    have r2 : hk2 c k V e = (te c k e, true) := by
      unfold hk2
      rw [r1, nS_f g]
    exact ⟨rfl, XK_0 hK ((hs2 (by rw [r2])).trans r2) (AG_u AG_r (by omega)) hF⟩
  refine ⟨fun _ => ?_, fun h9 => absurd h9 (by decide)⟩
  have r2 : hk2 c k V e = (te c k (te c k e), false) := by
    unfold hk2
    rw [r1, nS_t g]
  have h6 : F 6 = tv c k (te c k e) := hF.2.2.2.2 (nG_t.mp g).1
  refine hcl _ _ _ _ (w_niw13 (A := va_up A 45 F) hk he1 hc hF (fun g2 F2 hF2 => ?_) (fun g2 F2 hF2 => ?_))
  rotate_left
  · refine ⟨fun _ => ?_, fun h9 => absurd h9 (by decide)⟩
    have r3 : hk3 c k V e = (te c k (te c k e), true) := by
      unfold hk3
      rw [r2]
      show mS c k _ (decide (WD c k (te c k (te c k e)) w_at)) = _
      rw [g2]
      rfl
    exact ⟨rfl, XK_0 hK ((hs3 (by rw [r3])).trans r3) (AG_u (AG_u AG_r (by omega)) (by omega)) hF2⟩
  refine ⟨fun h9 => absurd h9 (by decide), fun _ => ?_⟩
  have r3 : hk3 c k V e = (te c k (te c k (te c k e)), false) := by
    unfold hk3
    rw [r2]
    show mS c k _ (decide (WD c k (te c k (te c k e)) w_at)) = _
    rw [g2]
    rfl
  refine hcl _ _ _ _ (w_nin (A := va_up (va_up A 45 F) 45 F2) hk he2 hc hF2 (fun g3 F3 hF3 => ?_) (fun g3 F3 hF3 => ?_))
  rotate_left
  · have g3 : nG c k (te c k (te c k (te c k e))) 0 (A 47 0 - 1) = false := g3
    rw [hV0] at g3
    refine ⟨fun h9 => absurd h9 (by decide), fun _ => ?_⟩
    have r4 : hk4 c k V e = (te c k (te c k (te c k e)), true) := by
      unfold hk4
      rw [r3, nS_f g3]
    exact ⟨rfl, XK_0 hK ((hs4 (by rw [r4])).trans r4) (AG_u (AG_u (AG_u AG_r (by omega)) (by omega)) (by omega)) hF3⟩
  have g3 : nG c k (te c k (te c k (te c k e))) 0 (A 47 0 - 1) = true := g3
  rw [hV0] at g3
  refine ⟨fun _ => ?_, fun h9 => absurd h9 (by decide)⟩
  have r4 : hk4 c k V e = (te c k (te c k (te c k (te c k e))), false) := by
    unfold hk4
    rw [r3, nS_t g3]
  have h63 : F3 6 = tv c k (te c k (te c k (te c k e))) := hF3.2.2.2.2 (nG_t.mp g3).1
  have l08 := (nG_t.mp g).2
  have f09 := (nG_t.mp g3).2
  have ef : tv c k (te c k (te c k (te c k e))) < V 0 := by
    have := f09.2
    have vb := hD.1.2.2.1
    have vb : 100 ≤ V 0 ∧ V 0 ≤ 9999 := vb
    generalize tv c k (te c k (te c k (te c k e))) = x at this ⊢
    generalize V 0 = y at this vb ⊢
    clear hK hcl hax kh
    grind
  refine hcl _ _ _ _ (w_nextToken (A := va_up (va_up (va_up A 45 F) 45 F2) 45 F3) (c := c) (e := te c k (te c k (te c k (te c k e)))) hk he4 hc hF3.1 hF3.2.2.2.1 (fun F4 hF4 => ?_))
  refine hcl _ _ _ _ (w_xw14 (A := va_up (va_up (va_up (va_up A 45 F) 45 F2) 45 F3) 45 F4) hk he4 hc hF4 (fun wy => ?_) (fun wn => ?_))
  · refine ⟨fun h9 => absurd h9 (by decide), fun _ => ?_⟩
    have hH : hkH c k V e = true := by
      unfold hkH
      rw [r4]
      show (!false && decide (WD c k (te c k (te c k (te c k (te c k e)))) w_hold)) = true
      rw [decide_eq_true wy]
      rfl
    have r5 : hk5 c k V e = (te c k (te c k (te c k (te c k (te c k e)))), false) := by
      unfold hk5
      rw [r4]
      show mS c k _ (decide (WD c k (te c k (te c k (te c k (te c k e)))) w_hold)) = _
      rw [decide_eq_true wy]
      rfl
    refine hcl _ _ _ _ (w_nin (A := va_up (va_up (va_up (va_up A 45 F) 45 F2) 45 F3) 45 F4) hk he4 hc hF4 (fun g5 F5 hF5 => ?_) (fun g5 F5 hF5 => ?_))
    · refine ⟨fun _ => ?_, fun h9 => absurd h9 (by decide)⟩
      have r6 : hk6 c k V e = (te c k (te c k (te c k (te c k (te c k (te c k e))))), false) := by
        unfold hk6
        rw [r5, nS_t g5]
      have h65 := hF5.2.2.2.2 (nG_t.mp g5).1
      refine hcl _ _ _ _ (w_nextToken (A := va_up (va_up (va_up (va_up (va_up A 45 F) 45 F2) 45 F3) 45 F4) 45 F5) (c := c) (e := te c k (te c k (te c k (te c k (te c k (te c k e)))))) hk he6 hc hF5.1 hF5.2.2.2.1 (fun F6 hF6 => ?_))
      refine hcl _ _ _ _ (w_build49 (k := kk) (A := va_up (va_up (va_up (va_up (va_up (va_up A 45 F) 45 F2) 45 F3) 45 F4) 45 F5) 45 F6) (by omega) kx ?_)
      refine ⟨rfl, XK_1 hK (x := te c k (te c k (te c k (te c k (te c k (te c k e)))))) ?_ (V' := upd (upd (upd (upd (upd (upd V (15 + 5 * kk) kd) (16 + 5 * kk) (F 6)) (17 + 5 * kk) (F3 6)) (18 + 5 * kk) (F5 6)) (19 + 5 * kk) 0) 3 (nI (kk + 1))) ?_ ?_ hF6 ?_⟩
      · unfold houseS
        rw [hH]
        exact r6
      · have : (houseS c k V e kd).2 = (kd, F 6, F3 6, F5 6, 0) := by
          unfold houseS
          rw [hH]
          show (kd, tv c k (hk1 c k V e).1, tv c k (hk3 c k V e).1, tv c k (hk5 c k V e).1, (0 : Int32)) = _
          rw [r1, r3, r5, h6, h63, h65]
        rw [this, apI_house q0 q5 (by omega) k3]
      · exact AG_u (AG_u (AG_u (AG_u (AG_u (AG_u (AG_u (AG_u (AG_u (AG_u (AG_u (AG_u AG_r (by omega)) (by omega)) (by omega)) (by omega)) (by omega)) (by omega)) (by omega)) (by omega)) (by omega)) (by omega)) (by omega)) (by omega)
      · exact DR_house (A := va_up (va_up (va_up (va_up (va_up (va_up A 45 F) 45 F2) 45 F3) 45 F4) 45 F5) 45 F6) hD (by omega) kx k3 ⟨q0, q5⟩ (show 0 ≤ F 6 ∧ F 6 ≤ 8 by rw [h6]; exact l08) (show 0 ≤ F3 6 ∧ F3 6 < V 0 from ⟨by rw [h63]; exact f09.1, by rw [h63]; exact ef⟩) (show 0 ≤ F5 6 ∧ F5 6 ≤ 99 by rw [h65]; exact (nG_t.mp g5).2)
    · refine ⟨fun h9 => absurd h9 (by decide), fun _ => ?_⟩
      have r6 : hk6 c k V e = (te c k (te c k (te c k (te c k (te c k e)))), true) := by
        unfold hk6
        rw [r5, nS_f g5]
      refine ⟨rfl, XK_0 hK (x := te c k (te c k (te c k (te c k (te c k e))))) ?_ (AG_u (AG_u (AG_u (AG_u (AG_u AG_r (by omega)) (by omega)) (by omega)) (by omega)) (by omega)) hF5⟩
      unfold houseS
      rw [hH]
      exact r6
  · refine ⟨fun _ => ?_, fun h9 => absurd h9 (by decide)⟩
    have hH : hkH c k V e = false := by
      unfold hkH
      rw [r4]
      show (!false && decide (WD c k (te c k (te c k (te c k (te c k e)))) w_hold)) = false
      rw [decide_eq_false wn]
      rfl
    refine hcl _ _ _ _ (w_build49 (k := kk) (A := va_up (va_up (va_up (va_up A 45 F) 45 F2) 45 F3) 45 F4) (by omega) kx ?_)
    refine ⟨rfl, XK_1 hK (x := te c k (te c k (te c k (te c k e)))) ?_ (V' := upd (upd (upd (upd (upd (upd V (15 + 5 * kk) kd) (16 + 5 * kk) (F 6)) (17 + 5 * kk) (F3 6)) (18 + 5 * kk) 5) (19 + 5 * kk) 0) 3 (nI (kk + 1))) ?_ ?_ hF4 ?_⟩
    · unfold houseS
      rw [hH]
      exact r4
    · have : (houseS c k V e kd).2 = (kd, F 6, F3 6, 5, 0) := by
        unfold houseS
        rw [hH]
        show (kd, tv c k (hk1 c k V e).1, tv c k (hk3 c k V e).1, (5 : Int32), (0 : Int32)) = _
        rw [r1, r3, h6, h63]
      rw [this, apI_house q0 q5 (by omega) k3]
    · exact AG_u (AG_u (AG_u (AG_u (AG_u (AG_u (AG_u (AG_u (AG_u (AG_u AG_r (by omega)) (by omega)) (by omega)) (by omega)) (by omega)) (by omega)) (by omega)) (by omega)) (by omega)) (by omega)
    · exact DR_house (A := va_up (va_up (va_up (va_up A 45 F) 45 F2) 45 F3) 45 F4) hD (by omega) kx k3 ⟨q0, q5⟩ (show 0 ≤ F 6 ∧ F 6 ≤ 8 by rw [h6]; exact l08) (show 0 ≤ F3 6 ∧ F3 6 < V 0 from ⟨by rw [h63]; exact f09.1, by rw [h63]; exact ef⟩) (by decide)
theorem w_readStake {E : ME} {d : Nat} {A : Nat → Nat → Int32} {B : Nat → Nat → Int64} {K : MK} {c : Nat → Int32} {k e : Nat} {V : Nat → Int32} (hk : k ≤ 120) (he : e ≤ k) (hc : ∀ j, j < k → A 63 j = c j) (hT : TX c k (A 45) e) (hD : DR A V) (hK : XK c k A B V (stakeS c k V e) K) : mCall E (d + 6) nX6_readStake [.ref 45] (SH, A, B) K := by
  have he1 := (tk_b c he).2.2.1
  have he2 := (tk_b c he1).2.2.1
  have he3 := (tk_b c he2).2.2.1
  have he4 := (tk_b c he3).2.2.1
  have he5 := (tk_b c he4).2.2.1
  have he6 := (tk_b c he5).2.2.1
  have he7 := (tk_b c he6).2.2.1
  have he8 := (tk_b c he7).2.2.1
  obtain ⟨kk, k12, kx, k3, kh⟩ := hD.2.2.2
  have kx : A 58 0 = nI kk := kx
  have k3 : V 5 = nI kk := k3
  refine mCall_sem MX6_readStake rfl rfl (Or.inl ⟨rfl, rfl, rfl⟩) rfl (mSem_wp MX6_readStake rfl aX6_readStake 300 [] (fun cl ax hcl hax => ?_))
  refine ⟨fun (z : nI 10 ≤ A 58 0) => ?_, fun (z : ¬ nI 10 ≤ A 58 0) => ?_⟩
  · rw [kx, nI_leI (by omega) (by omega)] at z
    have r1 : sk1 c k V e = (e, true) := by
      unfold sk1
      rw [decide_eq_false (show ¬ V 5 < 10 from by rw [k3]; exact fun y => absurd ((nI_ltI (b := 10) (by omega) (by decide)).mp y) (by omega))]
      rfl
    exact ⟨rfl, XK_0 hK ((ss1 (by rw [r1])).trans r1) AG_r hT⟩
  rw [kx, nI_leI (by omega) (by omega)] at z
  have r1 : sk1 c k V e = (te c k e, false) := by
    unfold sk1
    rw [decide_eq_true (show V 5 < 10 from by rw [k3]; exact (nI_ltI (b := 10) (by omega) (by decide)).mpr (by omega))]
    rfl
  refine hcl _ _ _ _ (w_nin (A := A) hk he hc hT (fun g1 F1 hF1 => ?_) (fun g1 F1 hF1 => ?_))
  rotate_left
  · refine ⟨fun h9 => absurd h9 (by decide), fun _ => ?_⟩
    have r2 : sk2 c k V e = (te c k e, true) := by
      unfold sk2
      rw [r1, nS_f g1]
    exact ⟨rfl, XK_0 hK ((ss2 (by rw [r2])).trans r2) (AG_u AG_r (by omega)) hF1⟩
  refine ⟨fun _ => ?_, fun h9 => absurd h9 (by decide)⟩
  have r2 : sk2 c k V e = (te c k (te c k e), false) := by
    unfold sk2
    rw [r1, nS_t g1]
  have h6_1 : F1 6 = tv c k (te c k e) := hF1.2.2.2.2 (nG_t.mp g1).1
  refine hcl _ _ _ _ (w_niw4 (A := (va_up A 45 F1)) hk he1 hc hF1 (fun g2 F2 hF2 => ?_) (fun g2 F2 hF2 => ?_))
  rotate_left
  · refine ⟨fun _ => ?_, fun h9 => absurd h9 (by decide)⟩
    have r3 : sk3 c k V e = (te c k (te c k e), true) := by
      unfold sk3
      rw [r2]
      show mS c k _ (decide (WD c k (te c k (te c k e)) w_from)) = _
      rw [g2]
      rfl
    exact ⟨rfl, XK_0 hK ((ss3 (by rw [r3])).trans r3) (AG_u (AG_u AG_r (by omega)) (by omega)) hF2⟩
  refine ⟨fun h9 => absurd h9 (by decide), fun _ => ?_⟩
  have r3 : sk3 c k V e = (te c k (te c k (te c k e)), false) := by
    unfold sk3
    rw [r2]
    show mS c k _ (decide (WD c k (te c k (te c k e)) w_from)) = _
    rw [g2]
    rfl
  refine hcl _ _ _ _ (w_nin (A := (va_up (va_up A 45 F1) 45 F2)) hk he2 hc hF2 (fun g3 F3 hF3 => ?_) (fun g3 F3 hF3 => ?_))
  rotate_left
  · refine ⟨fun h9 => absurd h9 (by decide), fun _ => ?_⟩
    have r4 : sk4 c k V e = (te c k (te c k (te c k e)), true) := by
      unfold sk4
      rw [r3, nS_f g3]
    exact ⟨rfl, XK_0 hK ((ss4 (by rw [r4])).trans r4) (AG_u (AG_u (AG_u AG_r (by omega)) (by omega)) (by omega)) hF3⟩
  refine ⟨fun _ => ?_, fun h9 => absurd h9 (by decide)⟩
  have r4 : sk4 c k V e = (te c k (te c k (te c k (te c k e))), false) := by
    unfold sk4
    rw [r3, nS_t g3]
  have h6_3 : F3 6 = tv c k (te c k (te c k (te c k e))) := hF3.2.2.2.2 (nG_t.mp g3).1
  refine hcl _ _ _ _ (w_niw5 (A := (va_up (va_up (va_up A 45 F1) 45 F2) 45 F3)) hk he3 hc hF3 (fun g4 F4 hF4 => ?_) (fun g4 F4 hF4 => ?_))
  rotate_left
  · refine ⟨fun _ => ?_, fun h9 => absurd h9 (by decide)⟩
    have r5 : sk5 c k V e = (te c k (te c k (te c k (te c k e))), true) := by
      unfold sk5
      rw [r4]
      show mS c k _ (decide (WD c k (te c k (te c k (te c k (te c k e)))) w_for)) = _
      rw [g4]
      rfl
    exact ⟨rfl, XK_0 hK ((ss5 (by rw [r5])).trans r5) (AG_u (AG_u (AG_u (AG_u AG_r (by omega)) (by omega)) (by omega)) (by omega)) hF4⟩
  refine ⟨fun h9 => absurd h9 (by decide), fun _ => ?_⟩
  have r5 : sk5 c k V e = (te c k (te c k (te c k (te c k (te c k e)))), false) := by
    unfold sk5
    rw [r4]
    show mS c k _ (decide (WD c k (te c k (te c k (te c k (te c k e)))) w_for)) = _
    rw [g4]
    rfl
  refine hcl _ _ _ _ (w_nin (A := (va_up (va_up (va_up (va_up A 45 F1) 45 F2) 45 F3) 45 F4)) hk he4 hc hF4 (fun g5 F5 hF5 => ?_) (fun g5 F5 hF5 => ?_))
  rotate_left
  · refine ⟨fun h9 => absurd h9 (by decide), fun _ => ?_⟩
    have r6 : sk6 c k V e = (te c k (te c k (te c k (te c k (te c k e)))), true) := by
      unfold sk6
      rw [r5, nS_f g5]
    exact ⟨rfl, XK_0 hK ((ss6 (by rw [r6])).trans r6) (AG_u (AG_u (AG_u (AG_u (AG_u AG_r (by omega)) (by omega)) (by omega)) (by omega)) (by omega)) hF5⟩
  refine ⟨fun _ => ?_, fun h9 => absurd h9 (by decide)⟩
  have r6 : sk6 c k V e = (te c k (te c k (te c k (te c k (te c k (te c k e))))), false) := by
    unfold sk6
    rw [r5, nS_t g5]
  have h6_5 : F5 6 = tv c k (te c k (te c k (te c k (te c k (te c k e))))) := hF5.2.2.2.2 (nG_t.mp g5).1
  refine hcl _ _ _ _ (w_niw6 (A := (va_up (va_up (va_up (va_up (va_up A 45 F1) 45 F2) 45 F3) 45 F4) 45 F5)) hk he5 hc hF5 (fun g6 F6 hF6 => ?_) (fun g6 F6 hF6 => ?_))
  rotate_left
  · refine ⟨fun _ => ?_, fun h9 => absurd h9 (by decide)⟩
    have r7 : sk7 c k V e = (te c k (te c k (te c k (te c k (te c k (te c k e))))), true) := by
      unfold sk7
      rw [r6]
      show mS c k _ (decide (WD c k (te c k (te c k (te c k (te c k (te c k (te c k e)))))) w_went)) = _
      rw [g6]
      rfl
    exact ⟨rfl, XK_0 hK ((ss7 (by rw [r7])).trans r7) (AG_u (AG_u (AG_u (AG_u (AG_u (AG_u AG_r (by omega)) (by omega)) (by omega)) (by omega)) (by omega)) (by omega)) hF6⟩
  refine ⟨fun h9 => absurd h9 (by decide), fun _ => ?_⟩
  have r7 : sk7 c k V e = (te c k (te c k (te c k (te c k (te c k (te c k (te c k e)))))), false) := by
    unfold sk7
    rw [r6]
    show mS c k _ (decide (WD c k (te c k (te c k (te c k (te c k (te c k (te c k e)))))) w_went)) = _
    rw [g6]
    rfl
  refine hcl _ _ _ _ (w_nin (A := (va_up (va_up (va_up (va_up (va_up (va_up A 45 F1) 45 F2) 45 F3) 45 F4) 45 F5) 45 F6)) hk he6 hc hF6 (fun g7 F7 hF7 => ?_) (fun g7 F7 hF7 => ?_))
  rotate_left
  · refine ⟨fun h9 => absurd h9 (by decide), fun _ => ?_⟩
    have r8 : sk8 c k V e = (te c k (te c k (te c k (te c k (te c k (te c k (te c k e)))))), true) := by
      unfold sk8
      rw [r7, nS_f g7]
    exact ⟨rfl, XK_0 hK (show (stakeS c k V e).1 = _ from r8) (AG_u (AG_u (AG_u (AG_u (AG_u (AG_u (AG_u AG_r (by omega)) (by omega)) (by omega)) (by omega)) (by omega)) (by omega)) (by omega)) hF7⟩
  refine ⟨fun _ => ?_, fun h9 => absurd h9 (by decide)⟩
  have r8 : sk8 c k V e = (te c k (te c k (te c k (te c k (te c k (te c k (te c k (te c k e))))))), false) := by
    unfold sk8
    rw [r7, nS_t g7]
  have h6_7 : F7 6 = tv c k (te c k (te c k (te c k (te c k (te c k (te c k (te c k e))))))) := hF7.2.2.2.2 (nG_t.mp g7).1
  refine hcl _ _ _ _ (w_drive58 (k := kk) (A := va_up (va_up (va_up (va_up (va_up (va_up (va_up A 45 F1) 45 F2) 45 F3) 45 F4) 45 F5) 45 F6) 45 F7) (by omega) kx ?_)
  refine hcl _ _ _ _ (w_nextToken (A := va_up (va_up (va_up (va_up (va_up (va_up (va_up (va_up (va_up (va_up (va_up (va_up A 45 F1) 45 F2) 45 F3) 45 F4) 45 F5) 45 F6) 45 F7) 59 (upd (A 59) kk (F1 6))) 60 (upd (A 60) kk (F3 6))) 61 (upd (A 61) kk (F5 6))) 62 (upd (A 62) kk (F7 6))) 58 (upd (A 58) 0 (nI (kk + 1)))) (c := c) (e := te c k (te c k (te c k (te c k (te c k (te c k (te c k (te c k e)))))))) hk he8 hc hF7.1 hF7.2.2.2.1 (fun F8 hF8 => ?_))
  refine ⟨rfl, XK_1 hK (x := te c k (te c k (te c k (te c k (te c k (te c k (te c k (te c k e)))))))) (V' := upd (upd (upd (upd (upd V (95 + 4 * kk) (F1 6)) (96 + 4 * kk) (F3 6)) (97 + 4 * kk) (F5 6)) (98 + 4 * kk) (F7 6)) 5 (nI (kk + 1))) (show (stakeS c k V e).1 = _ from r8) ?_ (AG_u (AG_u (AG_u (AG_u (AG_u (AG_u (AG_u (AG_u (AG_u (AG_u (AG_u (AG_u (AG_u AG_r (by omega)) (by omega)) (by omega)) (by omega)) (by omega)) (by omega)) (by omega)) (by omega)) (by omega)) (by omega)) (by omega)) (by omega)) (by omega)) hF8 ?_⟩
  · have : (stakeS c k V e).2 = (13, F1 6, F3 6, F5 6, F7 6) := by
      show ((13 : Int32), tv c k (sk1 c k V e).1, tv c k (sk3 c k V e).1, tv c k (sk5 c k V e).1, tv c k (sk7 c k V e).1) = _
      rw [r1, r3, r5, r7, h6_1, h6_3, h6_5, h6_7]
    rw [this, apI_stake (by omega) k3]
  · exact DR_stake (A := va_up (va_up (va_up (va_up (va_up (va_up (va_up A 45 F1) 45 F2) 45 F3) 45 F4) 45 F5) 45 F6) 45 F7) hD (by omega) kx k3 (show 0 ≤ F3 6 ∧ F3 6 ≤ 999 by rw [h6_3]; exact (nG_t.mp g3).2) (show 1 ≤ F5 6 ∧ F5 6 ≤ 60 by rw [h6_5]; exact (nG_t.mp g5).2)
theorem w_nameOf0 {E : ME} {d : Nat} {h : MH} {K : MK} {x : Int32} (hx : x = 0) (hK : K (some (.ref 1022)) h) : mCall E d nX6_nameOf [.int x] h K := by
  subst hx
  refine mCall_sem MX6_nameOf rfl rfl (Or.inl ⟨rfl, rfl, rfl⟩) rfl (mSem_wp MX6_nameOf rfl aX6_nameOf 300 [] (fun cl ax hcl hax => ?_))
  refine ⟨fun h9 => absurd h9 (by decide), fun _ => ?_⟩
  refine ⟨fun h9 => absurd h9 (by decide), fun _ => ?_⟩
  refine ⟨fun h9 => absurd h9 (by decide), fun _ => ?_⟩
  refine ⟨fun h9 => absurd h9 (by decide), fun _ => ?_⟩
  refine ⟨fun h9 => absurd h9 (by decide), fun _ => ?_⟩
  exact hK
theorem w_nameOf1 {E : ME} {d : Nat} {h : MH} {K : MK} {x : Int32} (hx : x = 1) (hK : K (some (.ref 1017)) h) : mCall E d nX6_nameOf [.int x] h K := by
  subst hx
  refine mCall_sem MX6_nameOf rfl rfl (Or.inl ⟨rfl, rfl, rfl⟩) rfl (mSem_wp MX6_nameOf rfl aX6_nameOf 300 [] (fun cl ax hcl hax => ?_))
  refine ⟨fun _ => ?_, fun h9 => absurd (by decide) h9⟩
  exact hK
theorem w_nameOf2 {E : ME} {d : Nat} {h : MH} {K : MK} {x : Int32} (hx : x = 2) (hK : K (some (.ref 1018)) h) : mCall E d nX6_nameOf [.int x] h K := by
  subst hx
  refine mCall_sem MX6_nameOf rfl rfl (Or.inl ⟨rfl, rfl, rfl⟩) rfl (mSem_wp MX6_nameOf rfl aX6_nameOf 300 [] (fun cl ax hcl hax => ?_))
  refine ⟨fun h9 => absurd h9 (by decide), fun _ => ?_⟩
  refine ⟨fun _ => ?_, fun h9 => absurd (by decide) h9⟩
  exact hK
theorem w_nameOf3 {E : ME} {d : Nat} {h : MH} {K : MK} {x : Int32} (hx : x = 3) (hK : K (some (.ref 1019)) h) : mCall E d nX6_nameOf [.int x] h K := by
  subst hx
  refine mCall_sem MX6_nameOf rfl rfl (Or.inl ⟨rfl, rfl, rfl⟩) rfl (mSem_wp MX6_nameOf rfl aX6_nameOf 300 [] (fun cl ax hcl hax => ?_))
  refine ⟨fun h9 => absurd h9 (by decide), fun _ => ?_⟩
  refine ⟨fun h9 => absurd h9 (by decide), fun _ => ?_⟩
  refine ⟨fun _ => ?_, fun h9 => absurd (by decide) h9⟩
  exact hK
theorem w_nameOf4 {E : ME} {d : Nat} {h : MH} {K : MK} {x : Int32} (hx : x = 4) (hK : K (some (.ref 1020)) h) : mCall E d nX6_nameOf [.int x] h K := by
  subst hx
  refine mCall_sem MX6_nameOf rfl rfl (Or.inl ⟨rfl, rfl, rfl⟩) rfl (mSem_wp MX6_nameOf rfl aX6_nameOf 300 [] (fun cl ax hcl hax => ?_))
  refine ⟨fun h9 => absurd h9 (by decide), fun _ => ?_⟩
  refine ⟨fun h9 => absurd h9 (by decide), fun _ => ?_⟩
  refine ⟨fun h9 => absurd h9 (by decide), fun _ => ?_⟩
  refine ⟨fun _ => ?_, fun h9 => absurd (by decide) h9⟩
  exact hK
theorem w_nameOf5 {E : ME} {d : Nat} {h : MH} {K : MK} {x : Int32} (hx : x = 5) (hK : K (some (.ref 1021)) h) : mCall E d nX6_nameOf [.int x] h K := by
  subst hx
  refine mCall_sem MX6_nameOf rfl rfl (Or.inl ⟨rfl, rfl, rfl⟩) rfl (mSem_wp MX6_nameOf rfl aX6_nameOf 300 [] (fun cl ax hcl hax => ?_))
  refine ⟨fun h9 => absurd h9 (by decide), fun _ => ?_⟩
  refine ⟨fun h9 => absurd h9 (by decide), fun _ => ?_⟩
  refine ⟨fun h9 => absurd h9 (by decide), fun _ => ?_⟩
  refine ⟨fun h9 => absurd h9 (by decide), fun _ => ?_⟩
  refine ⟨fun _ => ?_, fun h9 => absurd (by decide) h9⟩
  exact hK
theorem w_readItem {E : ME} {d : Nat} {A : Nat → Nat → Int32} {B : Nat → Nat → Int64} {K : MK} {c : Nat → Int32} {k e : Nat} {V : Nat → Int32} (hk : k ≤ 120) (he : e ≤ k) (hc : ∀ j, j < k → A 63 j = c j) (hT : TX c k (A 45) e) (hD : DR A V) (hK : XK c k A B V (rdI c k V e) K) : mCall E (d + 7) nX6_readItem [.ref 45] (SH, A, B) K := by
  have pass : ∀ r, XK c k A B V r K → XK c k A B V r (fun v h => ∃ x, v = some (.int x) ∧ (x = 0 ∨ x = 1) ∧ K v h) := fun r h => ⟨fun a A' b t d => ⟨1, rfl, Or.inr rfl, h.1 a A' b t d⟩, fun a A' b t => ⟨0, rfl, Or.inl rfl, h.2 a A' b t⟩⟩
  refine mCall_sem MX6_readItem rfl rfl (Or.inl ⟨rfl, rfl, rfl⟩) rfl (mSem_wp MX6_readItem rfl aX6_readItem 300 [] (fun cl ax hcl hax => ?_))
  refine hcl _ _ _ _ (w_xw0 hk he hc hT (fun y => ?_) (fun n6 => ?_))
  · refine ⟨fun h9 => absurd h9 (by decide), fun _ => ?_⟩
    exact hcl _ _ _ _ (mCall_mono (fun v h hv => by
      obtain ⟨x, rfl, hx, hv⟩ := hv
      rcases hx with rfl | rfl
      · exact ⟨rfl, hv⟩
      · exact ⟨rfl, hv⟩) (w_readEdge hk he hc hT hD (pass _ (by rw [← rd_edge y]; exact hK))))
  refine ⟨fun _ => ?_, fun h9 => absurd h9 (by decide)⟩
  refine hcl _ _ _ _ (w_xw1 hk he hc hT (fun y => ?_) (fun n7 => ?_))
  · refine ⟨fun h9 => absurd h9 (by decide), fun _ => ?_⟩
    exact hcl _ _ _ _ (mCall_mono (fun v h hv => by
      obtain ⟨x, rfl, hx, hv⟩ := hv
      rcases hx with rfl | rfl
      · exact ⟨rfl, hv⟩
      · exact ⟨rfl, hv⟩) (w_readPace hk he hc hT hD (pass _ (by rw [← rd_pace y]; exact hK))))
  refine ⟨fun _ => ?_, fun h9 => absurd h9 (by decide)⟩
  refine hcl _ _ _ _ (w_xw2 hk he hc hT (fun y => ?_) (fun n8 => ?_))
  · refine ⟨fun h9 => absurd h9 (by decide), fun _ => ?_⟩
    exact hcl _ _ _ _ (mCall_mono (fun v h hv => by
      obtain ⟨x, rfl, hx, hv⟩ := hv
      rcases hx with rfl | rfl
      · exact ⟨rfl, hv⟩
      · exact ⟨rfl, hv⟩) (w_readWarm hk he hc hT hD (pass _ (by rw [← rd_warm y]; exact hK))))
  refine ⟨fun _ => ?_, fun h9 => absurd h9 (by decide)⟩
  refine hcl _ _ _ _ (w_xw3 hk he hc hT (fun y => ?_) (fun n9 => ?_))
  · refine ⟨fun h9 => absurd h9 (by decide), fun _ => ?_⟩
    exact hcl _ _ _ _ (mCall_mono (fun v h hv => by
      obtain ⟨x, rfl, hx, hv⟩ := hv
      rcases hx with rfl | rfl
      · exact ⟨rfl, hv⟩
      · exact ⟨rfl, hv⟩) (w_readStake hk he hc hT hD (pass _ (by rw [← rd_stake y]; exact hK))))
  refine ⟨fun _ => ?_, fun h9 => absurd h9 (by decide)⟩
  refine ⟨fun h9 => absurd h9 (by decide), fun _ => ?_⟩
  refine hcl _ _ _ _ (w_nameOf0 rfl ?_)
  refine hcl _ _ _ _ (w_xw12 hk he hc hT (fun y => ?_) (fun n0 => ?_))
  · refine ⟨fun h9 => absurd h9 (by decide), fun _ => ?_⟩
    exact hcl _ _ _ _ (mCall_mono (fun v h hv => by
      obtain ⟨x, rfl, hx, hv⟩ := hv
      rcases hx with rfl | rfl
      · exact ⟨rfl, hv⟩
      · exact ⟨rfl, hv⟩) (w_readHouse (kd := 0) (by decide) (by decide) hk he hc hT hD (pass _ (by rw [← rd_house y]; exact hK))))
  refine ⟨fun _ => ?_, fun h9 => absurd h9 (by decide)⟩
  refine ⟨fun h9 => absurd h9 (by decide), fun _ => ?_⟩
  refine hcl _ _ _ _ (w_nameOf1 rfl ?_)
  refine hcl _ _ _ _ (w_xw7 hk he hc hT (fun y => ?_) (fun n1 => ?_))
  · refine ⟨fun h9 => absurd h9 (by decide), fun _ => ?_⟩
    exact hcl _ _ _ _ (mCall_mono (fun v h hv => by
      obtain ⟨x, rfl, hx, hv⟩ := hv
      rcases hx with rfl | rfl
      · exact ⟨rfl, hv⟩
      · exact ⟨rfl, hv⟩) (w_readHouse (kd := 1) (by decide) (by decide) hk he hc hT hD (pass _ (by rw [← rd_roped y]; exact hK))))
  refine ⟨fun _ => ?_, fun h9 => absurd h9 (by decide)⟩
  refine ⟨fun h9 => absurd h9 (by decide), fun _ => ?_⟩
  refine hcl _ _ _ _ (w_nameOf2 rfl ?_)
  refine hcl _ _ _ _ (w_xw8 hk he hc hT (fun y => ?_) (fun n2 => ?_))
  · refine ⟨fun h9 => absurd h9 (by decide), fun _ => ?_⟩
    exact hcl _ _ _ _ (mCall_mono (fun v h hv => by
      obtain ⟨x, rfl, hx, hv⟩ := hv
      rcases hx with rfl | rfl
      · exact ⟨rfl, hv⟩
      · exact ⟨rfl, hv⟩) (w_readHouse (kd := 2) (by decide) (by decide) hk he hc hT hD (pass _ (by rw [← rd_sledge y]; exact hK))))
  refine ⟨fun _ => ?_, fun h9 => absurd h9 (by decide)⟩
  refine ⟨fun h9 => absurd h9 (by decide), fun _ => ?_⟩
  refine hcl _ _ _ _ (w_nameOf3 rfl ?_)
  refine hcl _ _ _ _ (w_xw9 hk he hc hT (fun y => ?_) (fun n3 => ?_))
  · refine ⟨fun h9 => absurd h9 (by decide), fun _ => ?_⟩
    exact hcl _ _ _ _ (mCall_mono (fun v h hv => by
      obtain ⟨x, rfl, hx, hv⟩ := hv
      rcases hx with rfl | rfl
      · exact ⟨rfl, hv⟩
      · exact ⟨rfl, hv⟩) (w_readHouse (kd := 3) (by decide) (by decide) hk he hc hT hD (pass _ (by rw [← rd_church y]; exact hK))))
  refine ⟨fun _ => ?_, fun h9 => absurd h9 (by decide)⟩
  refine ⟨fun h9 => absurd h9 (by decide), fun _ => ?_⟩
  refine hcl _ _ _ _ (w_nameOf4 rfl ?_)
  refine hcl _ _ _ _ (w_xw10 hk he hc hT (fun y => ?_) (fun n4 => ?_))
  · refine ⟨fun h9 => absurd h9 (by decide), fun _ => ?_⟩
    exact hcl _ _ _ _ (mCall_mono (fun v h hv => by
      obtain ⟨x, rfl, hx, hv⟩ := hv
      rcases hx with rfl | rfl
      · exact ⟨rfl, hv⟩
      · exact ⟨rfl, hv⟩) (w_readHouse (kd := 4) (by decide) (by decide) hk he hc hT hD (pass _ (by rw [← rd_ferry y]; exact hK))))
  refine ⟨fun _ => ?_, fun h9 => absurd h9 (by decide)⟩
  refine ⟨fun h9 => absurd h9 (by decide), fun _ => ?_⟩
  refine hcl _ _ _ _ (w_nameOf5 rfl ?_)
  refine hcl _ _ _ _ (w_xw11 hk he hc hT (fun y => ?_) (fun n5 => ?_))
  · refine ⟨fun h9 => absurd h9 (by decide), fun _ => ?_⟩
    exact hcl _ _ _ _ (mCall_mono (fun v h hv => by
      obtain ⟨x, rfl, hx, hv⟩ := hv
      rcases hx with rfl | rfl
      · exact ⟨rfl, hv⟩
      · exact ⟨rfl, hv⟩) (w_readHouse (kd := 5) (by decide) (by decide) hk he hc hT hD (pass _ (by rw [← rd_deep y]; exact hK))))
  refine ⟨fun _ => ?_, fun h9 => absurd h9 (by decide)⟩
  refine ⟨fun _ => ?_, fun h9 => absurd h9 (by decide)⟩
  refine ⟨rfl, XK_0 hK (x := e) ?_ AG_r hT⟩
  rw [rd_none n0 n1 n2 n3 n4 n5 n6 n7 n8 n9]
