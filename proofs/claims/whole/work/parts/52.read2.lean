/-! read, the operation -/
theorem op_read {E : ME} {v u : Int32} {A : Nat → Nat → Int32} {B : Nat → Nat → Int64} (h : rAll A B) : rOp E nX8_read nX9_read [.int v, .int u] A B := by
  obtain ⟨k, t, hm, hx, hx2⟩ := hM_of h.1
  have hy : A 2 2 = A 75 1 := h.1.1.1.2.2
  have k12 := hm.1
  refine rOp_of (fun K hK => ?_)
  by_cases ha : ¬ (0 ≤ v ∧ v ≤ 3)
  · refine mCall_sem MX8_read rfl rfl (Or.inl ⟨rfl, rfl, rfl⟩) rfl (mSem_wp MX8_read rfl aX8_read 300 [] (fun cl ax hcl hax => ?_))
    refine hcl _ _ _ _ (w_why_no ha ?_)
    refine ⟨fun h9 => absurd h9 (by decide), fun _ => ?_⟩
    refine hcl _ _ _ _ (w_X8_refuse 0 (by decide) (by decide) ?_)
    refine hK _ _ ?_
    clear hcl hax
    clear cl ax
    refine mCall_k (fun K hK => ?_)
    refine mCall_sem MX9_read rfl rfl (Or.inl ⟨rfl, rfl, rfl⟩) rfl (mSem_wp MX9_read rfl aX9_read 300 [] (fun cl ax hcl hax => ?_))
    refine hcl _ _ _ _ (w_ref0 ha ?_)
    refine ⟨fun h9 => absurd h9 (by decide), fun _ => ?_⟩
    exact hcl _ _ _ _ (w_X9_finding 0 (by decide) (by decide) (hK _ _ (rEnd_cnt h (by decide))))
  have ha := Classical.not_not.mp ha
  obtain ⟨s, hs, rfl⟩ := ix_le 3 ha.1 ha.2 rfl
  obtain ⟨r0, r1, r2, r3⟩ := h.2.2.2.2
  rcases (show s = 0 ∨ s = 1 ∨ s = 2 ∨ s = 3 by omega) with rfl | rfl | rfl | rfl
  · have e0 := r0.1
    obtain ⟨c, hc, c1, c2⟩ := r0.2.2.1
    refine mCall_sem MX8_read rfl rfl (Or.inl ⟨rfl, rfl, rfl⟩) rfl (mSem_wp MX8_read rfl aX8_read 300 [53] (fun cl ax hcl hax => ?_))
    refine hcl _ _ _ _ (w_why0 hy (fun z => ?_) (fun z z0 => ?_) (fun z z1 z2 z3 => ?_) (fun z z1 z2 z3 => ?_))
    · refine ⟨fun h9 => absurd h9 (by decide), fun _ => ?_⟩
      refine hcl _ _ _ _ (w_X8_refuse 5 (by decide) (by decide) ?_)
      refine hK _ _ ?_
      clear hcl hax
      clear cl ax
      refine mCall_k (fun K hK => ?_)
      refine mCall_sem MX9_read rfl rfl (Or.inl ⟨rfl, rfl, rfl⟩) rfl (mSem_wp MX9_read rfl aX9_read 300 [] (fun cl ax hcl hax => ?_))
      refine hcl _ _ _ _ (w_ref (A := cnt1 A 5) (s := 0) (by decide) (fun _ => ?_) (fun q => absurd (e0.symm.trans z) q) (fun q => absurd (e0.symm.trans z) q) (fun q => absurd (e0.symm.trans z) q))
      refine ⟨fun h9 => absurd h9 (by decide), fun _ => ?_⟩
      exact hcl _ _ _ _ (w_X9_finding 5 (by decide) (by decide) (hK _ _ (rEnd_cnt h (by decide))))
    · refine ⟨fun h9 => absurd h9 (by decide), fun _ => ?_⟩
      refine hcl _ _ _ _ (w_X8_refuse 0 (by decide) (by decide) ?_)
      refine hK _ _ ?_
      clear hcl hax
      clear cl ax
      refine mCall_k (fun K hK => ?_)
      refine mCall_sem MX9_read rfl rfl (Or.inl ⟨rfl, rfl, rfl⟩) rfl (mSem_wp MX9_read rfl aX9_read 300 [] (fun cl ax hcl hax => ?_))
      refine hcl _ _ _ _ (w_ref (A := cnt1 A 0) (s := 0) (by decide) (fun q => absurd (e0.trans q) z) (fun _ _ => ?_) (fun _ q1 q2 => absurd ⟨q1, q2⟩ z0) (fun _ q1 q2 => absurd ⟨q1, q2⟩ z0))
      refine ⟨fun h9 => absurd h9 (by decide), fun _ => ?_⟩
      exact hcl _ _ _ _ (w_X9_finding 0 (by decide) (by decide) (hK _ _ (rEnd_cnt h (by decide))))
    · refine ⟨fun h9 => absurd h9 (by decide), fun _ => ?_⟩
      refine hcl _ _ _ _ (w_X8_refuse 4 (by decide) (by decide) ?_)
      refine hK _ _ ?_
      clear hcl hax
      clear cl ax
      refine mCall_k (fun K hK => ?_)
      refine mCall_sem MX9_read rfl rfl (Or.inl ⟨rfl, rfl, rfl⟩) rfl (mSem_wp MX9_read rfl aX9_read 300 [] (fun cl ax hcl hax => ?_))
      refine hcl _ _ _ _ (w_ref (A := cnt1 A 4) (s := 0) (by decide) (fun q => absurd (e0.trans q) z) (fun _ q => absurd ⟨z1, z2⟩ q) (fun _ _ _ _ => ?_) (fun _ _ _ q => absurd z3 q))
      refine ⟨fun h9 => absurd h9 (by decide), fun _ => ?_⟩
      exact hcl _ _ _ _ (w_X9_finding 4 (by decide) (by decide) (hK _ _ (rEnd_cnt h (by decide))))
    · refine ⟨fun _ => ?_, fun h9 => absurd h9 (by decide)⟩
      obtain ⟨n, hn, rfl⟩ := ix_le 200 z1 z2 rfl
      refine ⟨vl 0 rfl rfl, ?_⟩
      refine hcl _ _ _ _ (w_look (n := n) (by omega) hm h.1 hx (fun R w hw => ?_))
      have em : mn (R 0) (A 65 1) = nI (min k c) := by rw [hw.1, c1]; exact mn_nI (by omega) (by omega)
      have fin : ∀ z : Int32, ((∃ j, j < min k c ∧ (∀ i, i < j → lg_cmp (B 66 i) (w.2.2.1 i).toInt64 = 0) ∧ ¬ lg_cmp (B 66 j) (w.2.2.1 j).toInt64 = 0 ∧ z = 1 + nI j) ∨ ((∀ i, i < min k c → lg_cmp (B 66 i) (w.2.2.1 i).toInt64 = 0) ∧ z = if k = c then 0 else 1 + nI (min k c))) → K (some (.int z)) (SH, LA A R w, B) := by
        intro y hz
        refine hK _ _ ?_
        clear hcl hax
        clear cl ax
        refine mCall_k (fun K hK => ?_)
        refine mCall_sem MX9_read rfl rfl (Or.inl ⟨rfl, rfl, rfl⟩) rfl (mSem_wp MX9_read rfl aX9_read 300 [37] (fun cl ax hcl hax => ?_))
        refine hcl _ _ _ _ (w_ref (A := LA A R w) (s := 0) (by decide) (fun q => absurd (e0.trans q) z) (fun _ q => absurd ⟨z1, z2⟩ q) (fun _ _ _ q => absurd q z3) (fun _ _ _ _ => ?_))
        refine ⟨fun _ => ?_, fun h9 => absurd h9 (by decide)⟩
        refine hcl _ _ _ _ (w_copy75_77 (A := LA A R w) (fun R1 h1 => ?_))
        refine hcl _ _ _ _ (w_yearsGo (A := va_up (LA A R w) 77 R1) (by omega) hm (fun N hN => ?_))
        have ce : ∀ i, i < min k c → lg_cmp (B 66 i) (w.2.2.1 i).toInt64 = lg_cmp (B 84 (40 * 0 + i)) (N (17 + 5 * i)).toInt64 := fun i hi => by
          have f1 : w.2.2.1 i = (TR (A 75) i n).1 := congrArg Prod.fst (hw.2.2 i (by omega) (mb12 i (by omega)))
          have f2 : N (17 + 5 * i) = (TR (A 75) i n).1 := congrArg Prod.fst (hN.2.2.1 i (by omega))
          have g1 : B 66 i = B 84 (40 * 0 + i) := r0.2.2.2 i (by omega)
          rw [f1, f2, g1]
        refine hax _ _ _ _ (lp_X9_read (d := 10) (A := va_up (va_up (LA A R w) 77 R1) 75 N) (s := 0) (k := k) (c := c) (m := min k c) (by decide) k12 hc rfl (show N 3 = nI k by rw [hN.2.1 3 ⟨by omega, fun _ _ => by omega, fun _ _ => by omega⟩]; exact hm.2.2.1) c2 (fun j j1 j2 j3 R2 h2 => ?_) (fun j2 R2 h2 => ?_) 0 ⟨by omega, fun i hi => by omega⟩)
        · have ey : y = 1 + nI j := by
            rcases hz with ⟨p, p1, p2, p3, p4⟩ | ⟨p2, p4⟩
            · have : p = j := by
                rcases Nat.lt_trichotomy p j with q | q | q
                · exact absurd (by rw [ce p p1]; exact j2 p q) p3
                · exact q
                · exact absurd ((ce j j1).symm.trans (p2 j q)) j3
              rw [p4, this]
            · exact absurd ((ce j j1).symm.trans (p2 j j1)) j3
          rw [ey] at hK
          exact hK _ _ ⟨rfl, rfl, rAll_back h (fun q hq => (h2 q hq).trans (h1 q hq))⟩
        · have ey : y = if k = c then 0 else 1 + nI (min k c) := by
            rcases hz with ⟨p, p1, p2, p3, p4⟩ | ⟨p2, p4⟩
            · exact absurd (by rw [ce p p1]; exact j2 p p1) p3
            · exact p4
          rw [ey] at hK
          exact hK _ _ ⟨rfl, rfl, rAll_back h (fun q hq => (h2 q hq).trans (h1 q hq))⟩
      have lp := lp_X8_read0 (E := E) (d := 11) (A := LA A R w) (A0 := A) (B := B) (B0 := B) (K := K) (n := nI n) (k := k) (c := c) (m := min k c) k12 hc rfl hw.1 c1 (fun j j1 j2 j3 => fin _ (Or.inl ⟨j, j1, j2, j3, rfl⟩)) (fun j2 => fin _ (Or.inr ⟨j2, rfl⟩)) 0 ⟨by omega, fun i hi => by omega⟩
      rw [← em] at lp
      exact hax _ _ _ _ lp
  · have e0 := r1.1
    obtain ⟨c, hc, c1, c2⟩ := r1.2.2.1
    refine mCall_sem MX8_read rfl rfl (Or.inl ⟨rfl, rfl, rfl⟩) rfl (mSem_wp MX8_read rfl aX8_read 300 [53] (fun cl ax hcl hax => ?_))
    refine hcl _ _ _ _ (w_why1 hy (fun z => ?_) (fun z z0 => ?_) (fun z z1 z2 z3 => ?_) (fun z z1 z2 z3 => ?_))
    · refine ⟨fun h9 => absurd h9 (by decide), fun _ => ?_⟩
      refine hcl _ _ _ _ (w_X8_refuse 5 (by decide) (by decide) ?_)
      refine hK _ _ ?_
      clear hcl hax
      clear cl ax
      refine mCall_k (fun K hK => ?_)
      refine mCall_sem MX9_read rfl rfl (Or.inl ⟨rfl, rfl, rfl⟩) rfl (mSem_wp MX9_read rfl aX9_read 300 [] (fun cl ax hcl hax => ?_))
      refine hcl _ _ _ _ (w_ref (A := cnt1 A 5) (s := 1) (by decide) (fun _ => ?_) (fun q => absurd (e0.symm.trans z) q) (fun q => absurd (e0.symm.trans z) q) (fun q => absurd (e0.symm.trans z) q))
      refine ⟨fun h9 => absurd h9 (by decide), fun _ => ?_⟩
      exact hcl _ _ _ _ (w_X9_finding 5 (by decide) (by decide) (hK _ _ (rEnd_cnt h (by decide))))
    · refine ⟨fun h9 => absurd h9 (by decide), fun _ => ?_⟩
      refine hcl _ _ _ _ (w_X8_refuse 0 (by decide) (by decide) ?_)
      refine hK _ _ ?_
      clear hcl hax
      clear cl ax
      refine mCall_k (fun K hK => ?_)
      refine mCall_sem MX9_read rfl rfl (Or.inl ⟨rfl, rfl, rfl⟩) rfl (mSem_wp MX9_read rfl aX9_read 300 [] (fun cl ax hcl hax => ?_))
      refine hcl _ _ _ _ (w_ref (A := cnt1 A 0) (s := 1) (by decide) (fun q => absurd (e0.trans q) z) (fun _ _ => ?_) (fun _ q1 q2 => absurd ⟨q1, q2⟩ z0) (fun _ q1 q2 => absurd ⟨q1, q2⟩ z0))
      refine ⟨fun h9 => absurd h9 (by decide), fun _ => ?_⟩
      exact hcl _ _ _ _ (w_X9_finding 0 (by decide) (by decide) (hK _ _ (rEnd_cnt h (by decide))))
    · refine ⟨fun h9 => absurd h9 (by decide), fun _ => ?_⟩
      refine hcl _ _ _ _ (w_X8_refuse 4 (by decide) (by decide) ?_)
      refine hK _ _ ?_
      clear hcl hax
      clear cl ax
      refine mCall_k (fun K hK => ?_)
      refine mCall_sem MX9_read rfl rfl (Or.inl ⟨rfl, rfl, rfl⟩) rfl (mSem_wp MX9_read rfl aX9_read 300 [] (fun cl ax hcl hax => ?_))
      refine hcl _ _ _ _ (w_ref (A := cnt1 A 4) (s := 1) (by decide) (fun q => absurd (e0.trans q) z) (fun _ q => absurd ⟨z1, z2⟩ q) (fun _ _ _ _ => ?_) (fun _ _ _ q => absurd z3 q))
      refine ⟨fun h9 => absurd h9 (by decide), fun _ => ?_⟩
      exact hcl _ _ _ _ (w_X9_finding 4 (by decide) (by decide) (hK _ _ (rEnd_cnt h (by decide))))
    · refine ⟨fun _ => ?_, fun h9 => absurd h9 (by decide)⟩
      obtain ⟨n, hn, rfl⟩ := ix_le 200 z1 z2 rfl
      refine ⟨vl 1 rfl rfl, ?_⟩
      refine hcl _ _ _ _ (w_look (n := n) (by omega) hm h.1 hx (fun R w hw => ?_))
      have em : mn (R 0) (A 67 1) = nI (min k c) := by rw [hw.1, c1]; exact mn_nI (by omega) (by omega)
      have fin : ∀ z : Int32, ((∃ j, j < min k c ∧ (∀ i, i < j → lg_cmp (B 68 i) (w.2.2.1 i).toInt64 = 0) ∧ ¬ lg_cmp (B 68 j) (w.2.2.1 j).toInt64 = 0 ∧ z = 1 + nI j) ∨ ((∀ i, i < min k c → lg_cmp (B 68 i) (w.2.2.1 i).toInt64 = 0) ∧ z = if k = c then 0 else 1 + nI (min k c))) → K (some (.int z)) (SH, LA A R w, B) := by
        intro y hz
        refine hK _ _ ?_
        clear hcl hax
        clear cl ax
        refine mCall_k (fun K hK => ?_)
        refine mCall_sem MX9_read rfl rfl (Or.inl ⟨rfl, rfl, rfl⟩) rfl (mSem_wp MX9_read rfl aX9_read 300 [37] (fun cl ax hcl hax => ?_))
        refine hcl _ _ _ _ (w_ref (A := LA A R w) (s := 1) (by decide) (fun q => absurd (e0.trans q) z) (fun _ q => absurd ⟨z1, z2⟩ q) (fun _ _ _ q => absurd q z3) (fun _ _ _ _ => ?_))
        refine ⟨fun _ => ?_, fun h9 => absurd h9 (by decide)⟩
        refine hcl _ _ _ _ (w_copy75_77 (A := LA A R w) (fun R1 h1 => ?_))
        refine hcl _ _ _ _ (w_yearsGo (A := va_up (LA A R w) 77 R1) (by omega) hm (fun N hN => ?_))
        have ce : ∀ i, i < min k c → lg_cmp (B 68 i) (w.2.2.1 i).toInt64 = lg_cmp (B 84 (40 * 1 + i)) (N (17 + 5 * i)).toInt64 := fun i hi => by
          have f1 : w.2.2.1 i = (TR (A 75) i n).1 := congrArg Prod.fst (hw.2.2 i (by omega) (mb12 i (by omega)))
          have f2 : N (17 + 5 * i) = (TR (A 75) i n).1 := congrArg Prod.fst (hN.2.2.1 i (by omega))
          have g1 : B 68 i = B 84 (40 * 1 + i) := r1.2.2.2 i (by omega)
          rw [f1, f2, g1]
        refine hax _ _ _ _ (lp_X9_read (d := 10) (A := va_up (va_up (LA A R w) 77 R1) 75 N) (s := 1) (k := k) (c := c) (m := min k c) (by decide) k12 hc rfl (show N 3 = nI k by rw [hN.2.1 3 ⟨by omega, fun _ _ => by omega, fun _ _ => by omega⟩]; exact hm.2.2.1) c2 (fun j j1 j2 j3 R2 h2 => ?_) (fun j2 R2 h2 => ?_) 0 ⟨by omega, fun i hi => by omega⟩)
        · have ey : y = 1 + nI j := by
            rcases hz with ⟨p, p1, p2, p3, p4⟩ | ⟨p2, p4⟩
            · have : p = j := by
                rcases Nat.lt_trichotomy p j with q | q | q
                · exact absurd (by rw [ce p p1]; exact j2 p q) p3
                · exact q
                · exact absurd ((ce j j1).symm.trans (p2 j q)) j3
              rw [p4, this]
            · exact absurd ((ce j j1).symm.trans (p2 j j1)) j3
          rw [ey] at hK
          exact hK _ _ ⟨rfl, rfl, rAll_back h (fun q hq => (h2 q hq).trans (h1 q hq))⟩
        · have ey : y = if k = c then 0 else 1 + nI (min k c) := by
            rcases hz with ⟨p, p1, p2, p3, p4⟩ | ⟨p2, p4⟩
            · exact absurd (by rw [ce p p1]; exact j2 p p1) p3
            · exact p4
          rw [ey] at hK
          exact hK _ _ ⟨rfl, rfl, rAll_back h (fun q hq => (h2 q hq).trans (h1 q hq))⟩
      have lp := lp_X8_read1 (E := E) (d := 11) (A := LA A R w) (A0 := A) (B := B) (B0 := B) (K := K) (n := nI n) (k := k) (c := c) (m := min k c) k12 hc rfl hw.1 c1 (fun j j1 j2 j3 => fin _ (Or.inl ⟨j, j1, j2, j3, rfl⟩)) (fun j2 => fin _ (Or.inr ⟨j2, rfl⟩)) 0 ⟨by omega, fun i hi => by omega⟩
      rw [← em] at lp
      exact hax _ _ _ _ lp
  · have e0 := r2.1
    obtain ⟨c, hc, c1, c2⟩ := r2.2.2.1
    refine mCall_sem MX8_read rfl rfl (Or.inl ⟨rfl, rfl, rfl⟩) rfl (mSem_wp MX8_read rfl aX8_read 300 [53] (fun cl ax hcl hax => ?_))
    refine hcl _ _ _ _ (w_why2 hy (fun z => ?_) (fun z z0 => ?_) (fun z z1 z2 z3 => ?_) (fun z z1 z2 z3 => ?_))
    · refine ⟨fun h9 => absurd h9 (by decide), fun _ => ?_⟩
      refine hcl _ _ _ _ (w_X8_refuse 5 (by decide) (by decide) ?_)
      refine hK _ _ ?_
      clear hcl hax
      clear cl ax
      refine mCall_k (fun K hK => ?_)
      refine mCall_sem MX9_read rfl rfl (Or.inl ⟨rfl, rfl, rfl⟩) rfl (mSem_wp MX9_read rfl aX9_read 300 [] (fun cl ax hcl hax => ?_))
      refine hcl _ _ _ _ (w_ref (A := cnt1 A 5) (s := 2) (by decide) (fun _ => ?_) (fun q => absurd (e0.symm.trans z) q) (fun q => absurd (e0.symm.trans z) q) (fun q => absurd (e0.symm.trans z) q))
      refine ⟨fun h9 => absurd h9 (by decide), fun _ => ?_⟩
      exact hcl _ _ _ _ (w_X9_finding 5 (by decide) (by decide) (hK _ _ (rEnd_cnt h (by decide))))
    · refine ⟨fun h9 => absurd h9 (by decide), fun _ => ?_⟩
      refine hcl _ _ _ _ (w_X8_refuse 0 (by decide) (by decide) ?_)
      refine hK _ _ ?_
      clear hcl hax
      clear cl ax
      refine mCall_k (fun K hK => ?_)
      refine mCall_sem MX9_read rfl rfl (Or.inl ⟨rfl, rfl, rfl⟩) rfl (mSem_wp MX9_read rfl aX9_read 300 [] (fun cl ax hcl hax => ?_))
      refine hcl _ _ _ _ (w_ref (A := cnt1 A 0) (s := 2) (by decide) (fun q => absurd (e0.trans q) z) (fun _ _ => ?_) (fun _ q1 q2 => absurd ⟨q1, q2⟩ z0) (fun _ q1 q2 => absurd ⟨q1, q2⟩ z0))
      refine ⟨fun h9 => absurd h9 (by decide), fun _ => ?_⟩
      exact hcl _ _ _ _ (w_X9_finding 0 (by decide) (by decide) (hK _ _ (rEnd_cnt h (by decide))))
    · refine ⟨fun h9 => absurd h9 (by decide), fun _ => ?_⟩
      refine hcl _ _ _ _ (w_X8_refuse 4 (by decide) (by decide) ?_)
      refine hK _ _ ?_
      clear hcl hax
      clear cl ax
      refine mCall_k (fun K hK => ?_)
      refine mCall_sem MX9_read rfl rfl (Or.inl ⟨rfl, rfl, rfl⟩) rfl (mSem_wp MX9_read rfl aX9_read 300 [] (fun cl ax hcl hax => ?_))
      refine hcl _ _ _ _ (w_ref (A := cnt1 A 4) (s := 2) (by decide) (fun q => absurd (e0.trans q) z) (fun _ q => absurd ⟨z1, z2⟩ q) (fun _ _ _ _ => ?_) (fun _ _ _ q => absurd z3 q))
      refine ⟨fun h9 => absurd h9 (by decide), fun _ => ?_⟩
      exact hcl _ _ _ _ (w_X9_finding 4 (by decide) (by decide) (hK _ _ (rEnd_cnt h (by decide))))
    · refine ⟨fun _ => ?_, fun h9 => absurd h9 (by decide)⟩
      obtain ⟨n, hn, rfl⟩ := ix_le 200 z1 z2 rfl
      refine ⟨vl 2 rfl rfl, ?_⟩
      refine hcl _ _ _ _ (w_look (n := n) (by omega) hm h.1 hx (fun R w hw => ?_))
      have em : mn (R 0) (A 69 1) = nI (min k c) := by rw [hw.1, c1]; exact mn_nI (by omega) (by omega)
      have fin : ∀ z : Int32, ((∃ j, j < min k c ∧ (∀ i, i < j → lg_cmp (B 70 i) (w.2.2.1 i).toInt64 = 0) ∧ ¬ lg_cmp (B 70 j) (w.2.2.1 j).toInt64 = 0 ∧ z = 1 + nI j) ∨ ((∀ i, i < min k c → lg_cmp (B 70 i) (w.2.2.1 i).toInt64 = 0) ∧ z = if k = c then 0 else 1 + nI (min k c))) → K (some (.int z)) (SH, LA A R w, B) := by
        intro y hz
        refine hK _ _ ?_
        clear hcl hax
        clear cl ax
        refine mCall_k (fun K hK => ?_)
        refine mCall_sem MX9_read rfl rfl (Or.inl ⟨rfl, rfl, rfl⟩) rfl (mSem_wp MX9_read rfl aX9_read 300 [37] (fun cl ax hcl hax => ?_))
        refine hcl _ _ _ _ (w_ref (A := LA A R w) (s := 2) (by decide) (fun q => absurd (e0.trans q) z) (fun _ q => absurd ⟨z1, z2⟩ q) (fun _ _ _ q => absurd q z3) (fun _ _ _ _ => ?_))
        refine ⟨fun _ => ?_, fun h9 => absurd h9 (by decide)⟩
        refine hcl _ _ _ _ (w_copy75_77 (A := LA A R w) (fun R1 h1 => ?_))
        refine hcl _ _ _ _ (w_yearsGo (A := va_up (LA A R w) 77 R1) (by omega) hm (fun N hN => ?_))
        have ce : ∀ i, i < min k c → lg_cmp (B 70 i) (w.2.2.1 i).toInt64 = lg_cmp (B 84 (40 * 2 + i)) (N (17 + 5 * i)).toInt64 := fun i hi => by
          have f1 : w.2.2.1 i = (TR (A 75) i n).1 := congrArg Prod.fst (hw.2.2 i (by omega) (mb12 i (by omega)))
          have f2 : N (17 + 5 * i) = (TR (A 75) i n).1 := congrArg Prod.fst (hN.2.2.1 i (by omega))
          have g1 : B 70 i = B 84 (40 * 2 + i) := r2.2.2.2 i (by omega)
          rw [f1, f2, g1]
        refine hax _ _ _ _ (lp_X9_read (d := 10) (A := va_up (va_up (LA A R w) 77 R1) 75 N) (s := 2) (k := k) (c := c) (m := min k c) (by decide) k12 hc rfl (show N 3 = nI k by rw [hN.2.1 3 ⟨by omega, fun _ _ => by omega, fun _ _ => by omega⟩]; exact hm.2.2.1) c2 (fun j j1 j2 j3 R2 h2 => ?_) (fun j2 R2 h2 => ?_) 0 ⟨by omega, fun i hi => by omega⟩)
        · have ey : y = 1 + nI j := by
            rcases hz with ⟨p, p1, p2, p3, p4⟩ | ⟨p2, p4⟩
            · have : p = j := by
                rcases Nat.lt_trichotomy p j with q | q | q
                · exact absurd (by rw [ce p p1]; exact j2 p q) p3
                · exact q
                · exact absurd ((ce j j1).symm.trans (p2 j q)) j3
              rw [p4, this]
            · exact absurd ((ce j j1).symm.trans (p2 j j1)) j3
          rw [ey] at hK
          exact hK _ _ ⟨rfl, rfl, rAll_back h (fun q hq => (h2 q hq).trans (h1 q hq))⟩
        · have ey : y = if k = c then 0 else 1 + nI (min k c) := by
            rcases hz with ⟨p, p1, p2, p3, p4⟩ | ⟨p2, p4⟩
            · exact absurd (by rw [ce p p1]; exact j2 p p1) p3
            · exact p4
          rw [ey] at hK
          exact hK _ _ ⟨rfl, rfl, rAll_back h (fun q hq => (h2 q hq).trans (h1 q hq))⟩
      have lp := lp_X8_read2 (E := E) (d := 11) (A := LA A R w) (A0 := A) (B := B) (B0 := B) (K := K) (n := nI n) (k := k) (c := c) (m := min k c) k12 hc rfl hw.1 c1 (fun j j1 j2 j3 => fin _ (Or.inl ⟨j, j1, j2, j3, rfl⟩)) (fun j2 => fin _ (Or.inr ⟨j2, rfl⟩)) 0 ⟨by omega, fun i hi => by omega⟩
      rw [← em] at lp
      exact hax _ _ _ _ lp
  · have e0 := r3.1
    obtain ⟨c, hc, c1, c2⟩ := r3.2.2.1
    refine mCall_sem MX8_read rfl rfl (Or.inl ⟨rfl, rfl, rfl⟩) rfl (mSem_wp MX8_read rfl aX8_read 300 [53] (fun cl ax hcl hax => ?_))
    refine hcl _ _ _ _ (w_why3 hy (fun z => ?_) (fun z z0 => ?_) (fun z z1 z2 z3 => ?_) (fun z z1 z2 z3 => ?_))
    · refine ⟨fun h9 => absurd h9 (by decide), fun _ => ?_⟩
      refine hcl _ _ _ _ (w_X8_refuse 5 (by decide) (by decide) ?_)
      refine hK _ _ ?_
      clear hcl hax
      clear cl ax
      refine mCall_k (fun K hK => ?_)
      refine mCall_sem MX9_read rfl rfl (Or.inl ⟨rfl, rfl, rfl⟩) rfl (mSem_wp MX9_read rfl aX9_read 300 [] (fun cl ax hcl hax => ?_))
      refine hcl _ _ _ _ (w_ref (A := cnt1 A 5) (s := 3) (by decide) (fun _ => ?_) (fun q => absurd (e0.symm.trans z) q) (fun q => absurd (e0.symm.trans z) q) (fun q => absurd (e0.symm.trans z) q))
      refine ⟨fun h9 => absurd h9 (by decide), fun _ => ?_⟩
      exact hcl _ _ _ _ (w_X9_finding 5 (by decide) (by decide) (hK _ _ (rEnd_cnt h (by decide))))
    · refine ⟨fun h9 => absurd h9 (by decide), fun _ => ?_⟩
      refine hcl _ _ _ _ (w_X8_refuse 0 (by decide) (by decide) ?_)
      refine hK _ _ ?_
      clear hcl hax
      clear cl ax
      refine mCall_k (fun K hK => ?_)
      refine mCall_sem MX9_read rfl rfl (Or.inl ⟨rfl, rfl, rfl⟩) rfl (mSem_wp MX9_read rfl aX9_read 300 [] (fun cl ax hcl hax => ?_))
      refine hcl _ _ _ _ (w_ref (A := cnt1 A 0) (s := 3) (by decide) (fun q => absurd (e0.trans q) z) (fun _ _ => ?_) (fun _ q1 q2 => absurd ⟨q1, q2⟩ z0) (fun _ q1 q2 => absurd ⟨q1, q2⟩ z0))
      refine ⟨fun h9 => absurd h9 (by decide), fun _ => ?_⟩
      exact hcl _ _ _ _ (w_X9_finding 0 (by decide) (by decide) (hK _ _ (rEnd_cnt h (by decide))))
    · refine ⟨fun h9 => absurd h9 (by decide), fun _ => ?_⟩
      refine hcl _ _ _ _ (w_X8_refuse 4 (by decide) (by decide) ?_)
      refine hK _ _ ?_
      clear hcl hax
      clear cl ax
      refine mCall_k (fun K hK => ?_)
      refine mCall_sem MX9_read rfl rfl (Or.inl ⟨rfl, rfl, rfl⟩) rfl (mSem_wp MX9_read rfl aX9_read 300 [] (fun cl ax hcl hax => ?_))
      refine hcl _ _ _ _ (w_ref (A := cnt1 A 4) (s := 3) (by decide) (fun q => absurd (e0.trans q) z) (fun _ q => absurd ⟨z1, z2⟩ q) (fun _ _ _ _ => ?_) (fun _ _ _ q => absurd z3 q))
      refine ⟨fun h9 => absurd h9 (by decide), fun _ => ?_⟩
      exact hcl _ _ _ _ (w_X9_finding 4 (by decide) (by decide) (hK _ _ (rEnd_cnt h (by decide))))
    · refine ⟨fun _ => ?_, fun h9 => absurd h9 (by decide)⟩
      obtain ⟨n, hn, rfl⟩ := ix_le 200 z1 z2 rfl
      refine ⟨vl 3 rfl rfl, ?_⟩
      refine hcl _ _ _ _ (w_look (n := n) (by omega) hm h.1 hx (fun R w hw => ?_))
      have em : mn (R 0) (A 71 1) = nI (min k c) := by rw [hw.1, c1]; exact mn_nI (by omega) (by omega)
      have fin : ∀ z : Int32, ((∃ j, j < min k c ∧ (∀ i, i < j → lg_cmp (B 72 i) (w.2.2.1 i).toInt64 = 0) ∧ ¬ lg_cmp (B 72 j) (w.2.2.1 j).toInt64 = 0 ∧ z = 1 + nI j) ∨ ((∀ i, i < min k c → lg_cmp (B 72 i) (w.2.2.1 i).toInt64 = 0) ∧ z = if k = c then 0 else 1 + nI (min k c))) → K (some (.int z)) (SH, LA A R w, B) := by
        intro y hz
        refine hK _ _ ?_
        clear hcl hax
        clear cl ax
        refine mCall_k (fun K hK => ?_)
        refine mCall_sem MX9_read rfl rfl (Or.inl ⟨rfl, rfl, rfl⟩) rfl (mSem_wp MX9_read rfl aX9_read 300 [37] (fun cl ax hcl hax => ?_))
        refine hcl _ _ _ _ (w_ref (A := LA A R w) (s := 3) (by decide) (fun q => absurd (e0.trans q) z) (fun _ q => absurd ⟨z1, z2⟩ q) (fun _ _ _ q => absurd q z3) (fun _ _ _ _ => ?_))
        refine ⟨fun _ => ?_, fun h9 => absurd h9 (by decide)⟩
        refine hcl _ _ _ _ (w_copy75_77 (A := LA A R w) (fun R1 h1 => ?_))
        refine hcl _ _ _ _ (w_yearsGo (A := va_up (LA A R w) 77 R1) (by omega) hm (fun N hN => ?_))
        have ce : ∀ i, i < min k c → lg_cmp (B 72 i) (w.2.2.1 i).toInt64 = lg_cmp (B 84 (40 * 3 + i)) (N (17 + 5 * i)).toInt64 := fun i hi => by
          have f1 : w.2.2.1 i = (TR (A 75) i n).1 := congrArg Prod.fst (hw.2.2 i (by omega) (mb12 i (by omega)))
          have f2 : N (17 + 5 * i) = (TR (A 75) i n).1 := congrArg Prod.fst (hN.2.2.1 i (by omega))
          have g1 : B 72 i = B 84 (40 * 3 + i) := r3.2.2.2 i (by omega)
          rw [f1, f2, g1]
        refine hax _ _ _ _ (lp_X9_read (d := 10) (A := va_up (va_up (LA A R w) 77 R1) 75 N) (s := 3) (k := k) (c := c) (m := min k c) (by decide) k12 hc rfl (show N 3 = nI k by rw [hN.2.1 3 ⟨by omega, fun _ _ => by omega, fun _ _ => by omega⟩]; exact hm.2.2.1) c2 (fun j j1 j2 j3 R2 h2 => ?_) (fun j2 R2 h2 => ?_) 0 ⟨by omega, fun i hi => by omega⟩)
        · have ey : y = 1 + nI j := by
            rcases hz with ⟨p, p1, p2, p3, p4⟩ | ⟨p2, p4⟩
            · have : p = j := by
                rcases Nat.lt_trichotomy p j with q | q | q
                · exact absurd (by rw [ce p p1]; exact j2 p q) p3
                · exact q
                · exact absurd ((ce j j1).symm.trans (p2 j q)) j3
              rw [p4, this]
            · exact absurd ((ce j j1).symm.trans (p2 j j1)) j3
          rw [ey] at hK
          exact hK _ _ ⟨rfl, rfl, rAll_back h (fun q hq => (h2 q hq).trans (h1 q hq))⟩
        · have ey : y = if k = c then 0 else 1 + nI (min k c) := by
            rcases hz with ⟨p, p1, p2, p3, p4⟩ | ⟨p2, p4⟩
            · exact absurd (by rw [ce p p1]; exact j2 p p1) p3
            · exact p4
          rw [ey] at hK
          exact hK _ _ ⟨rfl, rfl, rAll_back h (fun q hq => (h2 q hq).trans (h1 q hq))⟩
      have lp := lp_X8_read3 (E := E) (d := 11) (A := LA A R w) (A0 := A) (B := B) (B0 := B) (K := K) (n := nI n) (k := k) (c := c) (m := min k c) k12 hc rfl hw.1 c1 (fun j j1 j2 j3 => fin _ (Or.inl ⟨j, j1, j2, j3, rfl⟩)) (fun j2 => fin _ (Or.inr ⟨j2, rfl⟩)) 0 ⟨by omega, fun i hi => by omega⟩
      rw [← em] at lp
      exact hax _ _ _ _ lp
