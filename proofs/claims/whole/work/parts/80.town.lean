/-! town, the operation -/
theorem up_7 {α : Type} {A : Nat → α} {a : Nat} (G1 G2 G3 G4 G5 G6 : α) {G7 : α} : va_up (va_up (va_up (va_up (va_up (va_up (va_up A a G1) a G2) a G3) a G4) a G5) a G6) a G7 = va_up A a G7 := by
  rw [up_up, up_up, up_up, up_up, up_up, up_up]
theorem w_X9_town {E : ME} {d : Nat} {A : Nat → Nat → Int32} {B : Nat → Nat → Int64} {K : MK} {c : Nat → Int32} {k h : Nat} {N : Nat → Int32} (hk : k ≤ 120) (hc : ∀ j, j < k → A 79 j = c j) (hp : ∀ j, j < k → 0 ≤ c j) (h6 : A 74 6 = nI k) (hN : A 75 = N) (h12 : h ≤ 12) (h3 : N 3 = nI h) (hV : VB N) (k1 : (txt c k 121 0 N 0).1 = true → ∀ A', FRM A A' → A' 75 = (txt c k 121 0 N 0).2.2 → K (some (.int (nI (txt c k 121 0 N 0).2.1))) (SH, A', B)) (k0 : (txt c k 121 0 N 0).1 = false → ∀ A', FRM A A' → A' 75 = A 75 → K (some (.int (-1 - nI (txt c k 121 0 N 0).2.1))) (SH, A', B)) : mCall E (d + 8) nX9_town [.ref 74] (SH, A, B) K := by
  subst hN
  have key : mSem E (d + 8) nX9_town (SH, A, B) 0 0 K 43 [some (.ref 74), none] [] (SH, va_up A 74 (upd (upd (upd (upd (upd (upd (upd (A 74) 8 0) 11 0) 14 0) 15 0) 16 0) 17 (A 75 0)) 18 (fa (A 75) h)), B) := by
    refine mSem_wp MX9_town rfl aX9_town 300 [51] (fun cl ax hcl hax => ?_)
    refine hcl _ _ _ _ (w_next (A := va_up A 74 (upd (upd (upd (upd (upd (upd (upd (A 74) 8 0) 11 0) 14 0) 15 0) 16 0) 17 (A 75 0)) 18 (fa (A 75) h))) (c := c) (e := 0) hk (by omega) hc hp h6 rfl (fun F f1 f7 f8 f9 f10 => ?_))
    rw [up_up]
    have g : ∀ q, q < 7 → F q = A 74 q := fun q hq => by
      rw [f1 q (by omega)]
      show upd (upd (upd (upd (upd (upd (upd (A 74) 8 0) 11 0) 14 0) 15 0) 16 0) 17 (A 75 0)) 18 (fa (A 75) h) q = A 74 q
      rw [ud_n (by omega), ud_n (by omega), ud_n (by omega), ud_n (by omega), ud_n (by omega), ud_n (by omega), ud_n (by omega)]
    have hT : MT c k F (0, false) := ⟨(g 6 (by omega)).trans h6, f7, f8, f9, f10, f1 11 (by omega), by show 0 ≤ k; omega⟩
    have hM : MR (A 75) F (A 75) := by
      refine ⟨?_, ?_, f1 17 (by omega), ?_⟩
      · rw [show F 15 = 0 from f1 15 (by omega)]; generalize A 75 3 = x; grind
      · rw [show F 16 = 0 from f1 16 (by omega)]; generalize A 75 5 = x; grind
      · rw [show F 18 = fa (A 75) h from f1 18 (by omega)]
        unfold fr
        rw [h3, nI_clamp (by omega)]
    refine hcl _ _ _ _ (w_X9_readItem (A := va_up A 74 F) (V := A 75) (n := 0) hk hc hp (by omega) hV hT hM (f1 14 (by omega)) (fun F2 I g1 g2 g3 => ?_))
    exact hax _ _ _ _ (lp_mt (d := d) (A := A) hk hc hp (txt c k 121 0 (A 75) 0) k1 k0 121 0 0 (A 75) _ (by omega) (by omega) (by omega) hV (MQt_read (A := A) (A1 := va_up A 74 F) hV (fun q a b => up_n a) (fun q hq => g q (by omega)) rfl (fun j hj => absurd hj (by omega)) g1 g2 g3) rfl)
  rw [← up_7 (upd (A 74) 8 0) (upd (upd (A 74) 8 0) 11 0) (upd (upd (upd (A 74) 8 0) 11 0) 14 0) (upd (upd (upd (upd (A 74) 8 0) 11 0) 14 0) 15 0) (upd (upd (upd (upd (upd (A 74) 8 0) 11 0) 14 0) 15 0) 16 0) (upd (upd (upd (upd (upd (upd (A 74) 8 0) 11 0) 14 0) 15 0) 16 0) 17 (A 75 0))] at key
  refine mCall_sem MX9_town rfl rfl (Or.inl ⟨rfl, rfl, rfl⟩) rfl (mSem_wp MX9_town rfl aX9_town 300 [43] (fun cl ax hcl hax => ?_))
  refine ⟨rfl, rfl, ?_⟩
  refine ⟨vl 0 rfl rfl, ?_⟩
  refine hcl _ _ _ _ (w_far h12 h3 ?_)
  exact hax _ _ _ _ key
theorem rAll_fr {A A3 : Nat → Nat → Int32} {B : Nat → Nat → Int64} (h : rAll A B) (f : ∀ q, (q = 0 ∨ (18 ≤ q ∧ q < 45) ∨ (62 < q ∧ q ≠ 74 ∧ q ≠ 75 ∧ q ≠ 81)) → A3 q = A q) (h3 : A3 74 3 = A 74 3) (hn : rNow A3) (ht : rTap A3) : rAll A3 B := by
  obtain ⟨_, ⟨a1, a2⟩, ⟨b1, b2⟩, _, ⟨r0, r1, r2, r3⟩⟩ := h
  refine ⟨hn, ⟨?_, ?_⟩, ⟨?_, ?_⟩, ht, ?_, ?_, ?_, ?_⟩
  · rw [f 0 (by omega), h3]; exact a1
  · rw [f 0 (by omega)]
    refine a2.imp id (fun ⟨x, o1, o2, o3, o4⟩ => ⟨x, ?_, ?_, ?_, ?_⟩)
    · exact rIce_c o1 (f 19 (by omega)) (f 20 (by omega)) (fun q _ => by rw [f 76 (by omega)])
    · exact rHou_c o2 (f 21 (by omega)) (f 22 (by omega)) (f 23 (by omega)) (f 24 (by omega)) (f 25 (by omega)) (f 26 (by omega)) (fun q _ => by rw [f 76 (by omega)])
    · exact rDee_c o3 (f 27 (by omega)) (f 28 (by omega)) (f 29 (by omega)) (fun q _ => by rw [f 76 (by omega)])
    · exact rSta_c o4 (f 30 (by omega)) (f 31 (by omega)) (f 32 (by omega)) (f 33 (by omega)) (f 34 (by omega)) (fun q _ => by rw [f 76 (by omega)])
  · rw [f 73 (by omega), f 78 (by omega)]; exact b1
  · rw [f 73 (by omega), f 78 (by omega)]; exact b2
  · exact rS1_c r0 (by rw [f 65 (by omega)]; exact ⟨rfl, rfl⟩) (by rw [f 82 (by omega)]) (by rw [f 83 (by omega)]) (fun _ _ => rfl) (fun _ _ => rfl)
  · exact rS1_c r1 (by rw [f 67 (by omega)]; exact ⟨rfl, rfl⟩) (by rw [f 82 (by omega)]) (by rw [f 83 (by omega)]) (fun _ _ => rfl) (fun _ _ => rfl)
  · exact rS1_c r2 (by rw [f 69 (by omega)]; exact ⟨rfl, rfl⟩) (by rw [f 82 (by omega)]) (by rw [f 83 (by omega)]) (fun _ _ => rfl) (fun _ _ => rfl)
  · exact rS1_c r3 (by rw [f 71 (by omega)]; exact ⟨rfl, rfl⟩) (by rw [f 82 (by omega)]) (by rw [f 83 (by omega)]) (fun _ _ => rfl) (fun _ _ => rfl)
theorem rNow_eq {A A3 : Nat → Nat → Int32} (h : rNow A) (f : ∀ q, 2 ≤ q → q ≤ 17 → A3 q = A q) (e : A3 75 = A 75) : rNow A3 := by
  obtain ⟨o1, o2, o3, o4⟩ := h
  refine ⟨?_, ?_, ?_, ?_⟩
  · exact rIce_c o1 (f 2 (by omega) (by omega)) (f 3 (by omega) (by omega)) (fun q _ => by rw [e])
  · exact rHou_c o2 (f 4 (by omega) (by omega)) (f 5 (by omega) (by omega)) (f 6 (by omega) (by omega)) (f 7 (by omega) (by omega)) (f 8 (by omega) (by omega)) (f 9 (by omega) (by omega)) (fun q _ => by rw [e])
  · exact rDee_c o3 (f 10 (by omega) (by omega)) (f 11 (by omega) (by omega)) (f 12 (by omega) (by omega)) (fun q _ => by rw [e])
  · exact rSta_c o4 (f 13 (by omega) (by omega)) (f 14 (by omega) (by omega)) (f 15 (by omega) (by omega)) (f 16 (by omega) (by omega)) (f 17 (by omega) (by omega)) (fun q _ => by rw [e])
theorem TK46_ag {A : Nat → Nat → Int32} {I P H D D1 D2 S S1 S2 S3 S4 : Nat → Int32} {v : (Nat → Int32) × (Nat → Int32) × (Nat → Int32) × (Nat → Int32) × (Nat → Int32)} : AG A (TK46 A I P H D D1 D2 S S1 S2 S3 S4 v) := by
  unfold TK46 nb5
  exact AG_u (AG_u (AG_u (AG_u (AG_u (AG_u (AG_u (AG_u (AG_u (AG_u (AG_u (AG_u (AG_u (AG_u (AG_u (AG_u AG_r (by omega)) (by omega)) (by omega)) (by omega)) (by omega)) (by omega)) (by omega)) (by omega)) (by omega)) (by omega)) (by omega)) (by omega)) (by omega)) (by omega)) (by omega)) (by omega)
theorem TK1_ne {A : Nat → Nat → Int32} {I P H D D1 D2 S S1 S2 S3 S4 : Nat → Int32} {v : (Nat → Int32) × (Nat → Int32) × (Nat → Int32) × (Nat → Int32) × (Nat → Int32)} {q : Nat} (h : q < 2 ∨ 17 < q) : TK1 A I P H D D1 D2 S S1 S2 S3 S4 v q = A q := by
  unfold TK1 nb5
  rw [up_n (by omega), up_n (by omega), up_n (by omega), up_n (by omega), up_n (by omega), up_n (by omega), up_n (by omega), up_n (by omega), up_n (by omega), up_n (by omega), up_n (by omega), up_n (by omega), up_n (by omega), up_n (by omega), up_n (by omega), up_n (by omega)]
theorem rd_k {c : Nat → Int32} {k e : Nat} {V : Nat → Int32} (he : e ≤ k) : e ≤ (rdI c k V e).1.1 ∧ (rdI c k V e).1.1 ≤ k := by
  have b : e ≤ (e, false).1 ∧ (e, false).1 ≤ k := ⟨Nat.le_refl _, he⟩
  have hh : ∀ kd, e ≤ (houseS c k V e kd).1.1 ∧ (houseS c k V e kd).1.1 ≤ k := fun kd => by
    have h4 : e ≤ (hk4 c k V e).1 ∧ (hk4 c k V e).1 ≤ k := nS_ge (mS_ge (nS_ge (mS_ge b)))
    unfold houseS
    cases hkH c k V e with
    | true => exact nS_ge (mS_ge h4)
    | false => exact h4
  unfold rdI
  split
  · exact hh 0
  split
  · exact hh 1
  split
  · exact hh 2
  split
  · exact hh 3
  split
  · exact hh 4
  split
  · exact hh 5
  split
  · exact nS_ge (mS_ge b)
  split
  · exact nS_ge (nS_ge (mS_ge b))
  split
  · exact wmL_ge _ _ _ _ (nS_ge (mS_ge b))
  split
  · exact nS_ge (mS_ge (nS_ge (mS_ge (nS_ge (mS_ge (nS_ge (mS_ge b)))))))
  · exact b
/-- the answer's size -/
theorem txt_b {c : Nat → Int32} {k : Nat} (hk : k ≤ 120) : ∀ (f n e : Nat) (V : Nat → Int32), e ≤ k → k < e + f → 2 * n ≤ e → (txt c k f n V e).2.1 ≤ 1000
  | 0, n, e, V, a, b, d => by omega
  | f + 1, n, e, V, a, b, d => by
    rw [txt]
    have key : ∀ x, x ≤ k → tb c k x ≤ 1000 := fun x hx => by
      have := tk_b c hx
      omega
    cases hw : (rdI c k V e).1.2 with
    | true =>
      show tb c k (rdI c k V e).1.1 ≤ 1000
      exact key _ (rd_k a).2
    | false =>
      obtain ⟨g1, g2⟩ := rd_ge a hw
      have tbk := tk_b c g2
      show (if ts c k (rdI c k V e).1.1 = 0 then (true, n + 1, apI V (rdI c k V e).2) else if ts c k (rdI c k V e).1.1 = 3 ∧ c (tb c k (rdI c k V e).1.1) = 59 then txt c k f (n + 1) (apI V (rdI c k V e).2) (te c k (rdI c k V e).1.1) else (false, tb c k (rdI c k V e).1.1, V)).2.1 ≤ 1000
      split
      · show n + 1 ≤ 1000
        omega
      · split
        · rename_i z
          exact txt_b hk f (n + 1) _ _ tbk.2.2.1 (by omega) (by omega)
        · exact key _ g2
theorem txt_pos {c : Nat → Int32} {k : Nat} {V : Nat → Int32} (hk : k ≤ 120) : ¬ nI (txt c k 121 0 V 0).2.1 < 0 := by
  have := txt_b (c := c) hk 121 0 0 V (by omega) (by omega) (by omega)
  exact nI_pos (by omega)
theorem txt_neg {c : Nat → Int32} {k : Nat} {V : Nat → Int32} (hk : k ≤ 120) : -1 - nI (txt c k 121 0 V 0).2.1 < 0 := by
  have := txt_b (c := c) hk 121 0 0 V (by omega) (by omega) (by omega)
  have a := nI_pos' (n := (txt c k 121 0 V 0).2.1) (by omega)
  have b := nI_le (a := (txt c k 121 0 V 0).2.1) (b := 1000) (by omega) (by decide)
  have b : nI (txt c k 121 0 V 0).2.1 ≤ 1000 := b
  generalize nI (txt c k 121 0 V 0).2.1 = x at a b ⊢
  grind
theorem op_town {E : ME} {A : Nat → Nat → Int32} {B : Nat → Nat → Int64} (h : rAll A B) : rOp E nX8_town nX9_town [] A B := by
  obtain ⟨hh, t, hm, hx, hx2⟩ := hM_of h.1
  have hr := rH h.1 hm.2.2.1 hm.1
  obtain ⟨k, k120, k1, k2, k3⟩ := h.2.2.2.1
  have hV : VB (A 75) := by
    obtain ⟨_, _, _, ⟨s, s1, s2, s3, _⟩⟩ := h.1
    exact ⟨⟨hh, hm.1, hm.2.2.1⟩, ⟨s, s1, s3⟩⟩
  have hc : ∀ j, j < k → A 63 j = A 79 j := fun j hj => (k3 j hj).1
  have hp : ∀ j, j < k → 0 ≤ A 79 j := fun j hj => (k3 j hj).2.1
  refine rOp_of (fun K hK => ?_)
  refine mCall_sem MX8_town rfl rfl (Or.inl ⟨rfl, rfl, rfl⟩) rfl (mSem_wp MX8_town rfl aX8_town 300 [] (fun cl ax hcl hax => ?_))
  refine hcl _ _ _ _ (w_town46_1 hm.1 hx (fun j hj => by rw [(hr j hj).1.2.2.2.2]; exact (hm.2.2.2.2.1 j hj).2) (fun I P H D D1 D2 S S1 S2 S3 S4 v q1 q2 q3 q4 q5 q6 q7 q8 q9 q10 q11 q12 => ?_))
  have hD : DR (TK46 A I P H D D1 D2 S S1 S2 S3 S4 v) (A 75) := ⟨rIce_m h.1.1 q1 q2 (fun _ _ => rfl), rHou_m h.1.2.1 hx hm.1 q3 q4 (fun _ _ => rfl), rDee_m h.1.2.2.1 q5 q6 q7 (fun _ _ => rfl), rSta_m h.1.2.2.2 q8 q9 q10 q11 q12 (fun _ _ => rfl)⟩
  refine hcl _ _ _ _ (w_readText (A := TK46 A I P H D D1 D2 S S1 S2 S3 S4 v) (c := A 79) (V := A 75) k120 hc k1 hD (fun ok A1 ag d1 => ?_) (fun bad A1 ag => ?_))
  · have ag : AG A A1 := AG_t TK46_ag ag
    refine ⟨fun (z : nI (txt (A 79) k 121 0 (A 75) 0).2.1 < 0) => absurd z (txt_pos k120), fun _ => ?_⟩
    obtain ⟨kk, k12, kx, kv, kh⟩ := d1.2.1
    refine hcl _ _ _ _ (w_town1_46 (A := A1) (k := kk) k12 kx (fun j hj => ?_) (fun I P H D D1 D2 S S1 S2 S3 S4 v p1 p2 p3 p4 p5 p6 p7 p8 p9 p10 p11 p12 => ?_))
    · obtain ⟨⟨_, _, _, _, a5⟩, _, _, _, _, a6⟩ := kh j hj
      have a5 : A1 54 j = (txt (A 79) k 121 0 (A 75) 0).2.2 (19 + 5 * j) := a5
      rw [a5]
      exact a6.imp (fun z => z.1) id
    · have e2 : ∀ q, (17 < q ∧ q < 45) ∨ q < 2 ∨ 62 < q → va_up (TK1 A1 I P H D D1 D2 S S1 S2 S3 S4 v) 45 (upd (A1 45) 0 0) q = A q := fun q hq => by
        rw [up_n (by omega), TK1_ne (by omega)]
        exact ag q (by omega)
      refine hK _ _ (mCall_k (fun K hK => ?_))
      refine w_X9_town (d := 4) (A := va_up (TK1 A1 I P H D D1 D2 S S1 S2 S3 S4 v) 45 (upd (A1 45) 0 0)) (c := A 79) k120 (fun j _ => by rw [e2 79 (by omega)]) hp (by rw [e2 74 (by omega)]; exact k2) (e2 75 (by omega)) hm.1 hm.2.2.1 hV (fun _ A3 fm e75 => ?_) (fun z => absurd (z.symm.trans ok) (by decide))
      refine hK _ _ ⟨rfl, rfl, ?_⟩
      show rAll A3 B
      refine rAll_fr h (fun q hq => (fm.1 q (by omega) (by omega) (by omega)).trans (e2 q (by omega))) ((fm.2.1 3 (by omega)).trans (by rw [e2 74 (by omega)])) ?_ ⟨0, by omega, by rw [fm.1 45 (by decide) (by decide) (by decide)]; rfl, fm.2.2, fun j hj => absurd hj (by omega)⟩
      have fq : ∀ q, q ≠ 74 → q ≠ 75 → q ≠ 81 → A3 q = va_up (TK1 A1 I P H D D1 D2 S S1 S2 S3 S4 v) 45 (upd (A1 45) 0 0) q := fm.1
      have fe : ∀ q, q < 135 → A3 75 q = (PH A1 (txt (A 79) k 121 0 (A 75) 0).2.2) 75 q := fun q _ => by rw [e75]; rfl
      refine ⟨?_, ?_, ?_, ?_⟩
      · exact rIce_m d1.1 (by rw [fq 2 (by decide) (by decide) (by decide)]; exact p1) (by rw [fq 3 (by decide) (by decide) (by decide)]; exact p2) fe
      · exact rHou_m d1.2.1 kx k12 (by rw [fq 4 (by decide) (by decide) (by decide)]; exact p3) (by rw [fq 5 (by decide) (by decide) (by decide), fq 6 (by decide) (by decide) (by decide), fq 7 (by decide) (by decide) (by decide), fq 8 (by decide) (by decide) (by decide), fq 9 (by decide) (by decide) (by decide)]; exact p4) fe
      · exact rDee_m d1.2.2.1 (by rw [fq 10 (by decide) (by decide) (by decide)]; exact p5) (by rw [fq 11 (by decide) (by decide) (by decide)]; exact p6) (by rw [fq 12 (by decide) (by decide) (by decide)]; exact p7) fe
      · exact rSta_m d1.2.2.2 (by rw [fq 13 (by decide) (by decide) (by decide)]; exact p8) (by rw [fq 14 (by decide) (by decide) (by decide)]; exact p9) (by rw [fq 15 (by decide) (by decide) (by decide)]; exact p10) (by rw [fq 16 (by decide) (by decide) (by decide)]; exact p11) (by rw [fq 17 (by decide) (by decide) (by decide)]; exact p12) fe
  · have ag : AG A A1 := AG_t TK46_ag ag
    refine ⟨fun _ => ?_, fun (z : ¬ -1 - nI (txt (A 79) k 121 0 (A 75) 0).2.1 < 0) => absurd (txt_neg k120) z⟩
    have e2 : ∀ q, q < 45 ∨ 62 < q → va_up A1 45 (upd (A1 45) 0 0) q = A q := fun q hq => by
      rw [up_n (by omega)]
      exact ag q hq
    refine hK _ _ (mCall_k (fun K hK => ?_))
    refine w_X9_town (d := 4) (A := va_up A1 45 (upd (A1 45) 0 0)) (c := A 79) k120 (fun j _ => by rw [e2 79 (by omega)]) hp (by rw [e2 74 (by omega)]; exact k2) (e2 75 (by omega)) hm.1 hm.2.2.1 hV (fun z => absurd (bad.symm.trans z) (by decide)) (fun _ A3 fm e75 => ?_)
    refine hK _ _ ⟨rfl, rfl, ?_⟩
    show rAll A3 B
    refine rAll_fr h (fun q hq => (fm.1 q (by omega) (by omega) (by omega)).trans (e2 q (by omega))) ((fm.2.1 3 (by omega)).trans (by rw [e2 74 (by omega)])) ?_ ⟨0, by omega, by rw [fm.1 45 (by decide) (by decide) (by decide)]; rfl, fm.2.2, fun j hj => absurd hj (by omega)⟩
    exact rNow_eq h.1 (fun q a b => (fm.1 q (by omega) (by omega) (by omega)).trans (e2 q (by omega))) (e75.trans (e2 75 (by omega)))
