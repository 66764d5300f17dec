/-! map, the operation -/
theorem mn_nI {a b : Nat} (ha : a < 2 ^ 31) (hb : b < 2 ^ 31) : mn (nI a) (nI b) = nI (min a b) := by
  unfold mn
  by_cases c : b < a
  · rw [if_pos ((nI_ltI hb ha).mpr c), Nat.min_eq_right (by omega)]
  · rw [if_neg (fun q => c ((nI_ltI hb ha).mp q)), Nat.min_eq_left (by omega)]
theorem op_map {E : ME} {v u : Int32} {A : Nat → Nat → Int32} {B : Nat → Nat → Int64} (h : rAll A B) : rOp E nX8_map nX9_map [.int v, .int u] A B := by
  obtain ⟨k, t, hm, hx, hx2⟩ := hM_of h.1
  have hy : A 2 2 = A 75 1 := h.1.1.1.2.2
  have k12 := hm.1
  refine rOp_of (fun K hK => ?_)
  by_cases ha : ¬ (0 ≤ v ∧ v ≤ 3)
  · refine mCall_sem MX8_map rfl rfl (Or.inl ⟨rfl, rfl, rfl⟩) rfl (mSem_wp MX8_map rfl aX8_map 300 [] (fun cl ax hcl hax => ?_))
    refine hcl _ _ _ _ (w_why_no ha ?_)
    refine ⟨fun h9 => absurd h9 (by decide), fun _ => ?_⟩
    refine hcl _ _ _ _ (w_X8_refuse 0 (by decide) (by decide) ?_)
    refine hK _ _ ?_
    clear hcl hax
    clear cl ax
    refine mCall_k (fun K hK => ?_)
    refine mCall_sem MX9_map rfl rfl (Or.inl ⟨rfl, rfl, rfl⟩) rfl (mSem_wp MX9_map rfl aX9_map 300 [] (fun cl ax hcl hax => ?_))
    refine hcl _ _ _ _ (w_ref0 ha ?_)
    refine ⟨fun h9 => absurd h9 (by decide), fun _ => ?_⟩
    exact hcl _ _ _ _ (w_X9_finding 0 (by decide) (by decide) (hK _ _ (rEnd_cnt h (by decide))))
  have ha := Classical.not_not.mp ha
  obtain ⟨s, hs, rfl⟩ := ix_le 3 ha.1 ha.2 rfl
  obtain ⟨r0, r1, r2, r3⟩ := h.2.2.2.2
  rcases (show s = 0 ∨ s = 1 ∨ s = 2 ∨ s = 3 by omega) with rfl | rfl | rfl | rfl
  · have e0 := r0.1
    obtain ⟨c, hc, c1, c2⟩ := r0.2.2.1
    refine mCall_sem MX8_map rfl rfl (Or.inl ⟨rfl, rfl, rfl⟩) rfl (mSem_wp MX8_map rfl aX8_map 300 [53] (fun cl ax hcl hax => ?_))
    refine hcl _ _ _ _ (w_why0 hy (fun z => ?_) (fun z z0 => ?_) (fun z z1 z2 z3 => ?_) (fun z z1 z2 z3 => ?_))
    · refine ⟨fun h9 => absurd h9 (by decide), fun _ => ?_⟩
      refine hcl _ _ _ _ (w_X8_refuse 5 (by decide) (by decide) ?_)
      refine hK _ _ ?_
      clear hcl hax
      clear cl ax
      refine mCall_k (fun K hK => ?_)
      refine mCall_sem MX9_map rfl rfl (Or.inl ⟨rfl, rfl, rfl⟩) rfl (mSem_wp MX9_map rfl aX9_map 300 [] (fun cl ax hcl hax => ?_))
      refine hcl _ _ _ _ (w_ref (A := cnt1 A 5) (s := 0) (by decide) (fun _ => ?_) (fun q => absurd (e0.symm.trans z) q) (fun q => absurd (e0.symm.trans z) q) (fun q => absurd (e0.symm.trans z) q))
      refine ⟨fun h9 => absurd h9 (by decide), fun _ => ?_⟩
      exact hcl _ _ _ _ (w_X9_finding 5 (by decide) (by decide) (hK _ _ (rEnd_cnt h (by decide))))
    · refine ⟨fun h9 => absurd h9 (by decide), fun _ => ?_⟩
      refine hcl _ _ _ _ (w_X8_refuse 0 (by decide) (by decide) ?_)
      refine hK _ _ ?_
      clear hcl hax
      clear cl ax
      refine mCall_k (fun K hK => ?_)
      refine mCall_sem MX9_map rfl rfl (Or.inl ⟨rfl, rfl, rfl⟩) rfl (mSem_wp MX9_map rfl aX9_map 300 [] (fun cl ax hcl hax => ?_))
      refine hcl _ _ _ _ (w_ref (A := cnt1 A 0) (s := 0) (by decide) (fun q => absurd (e0.trans q) z) (fun _ _ => ?_) (fun _ q1 q2 => absurd ⟨q1, q2⟩ z0) (fun _ q1 q2 => absurd ⟨q1, q2⟩ z0))
      refine ⟨fun h9 => absurd h9 (by decide), fun _ => ?_⟩
      exact hcl _ _ _ _ (w_X9_finding 0 (by decide) (by decide) (hK _ _ (rEnd_cnt h (by decide))))
    · refine ⟨fun h9 => absurd h9 (by decide), fun _ => ?_⟩
      refine hcl _ _ _ _ (w_X8_refuse 4 (by decide) (by decide) ?_)
      refine hK _ _ ?_
      clear hcl hax
      clear cl ax
      refine mCall_k (fun K hK => ?_)
      refine mCall_sem MX9_map rfl rfl (Or.inl ⟨rfl, rfl, rfl⟩) rfl (mSem_wp MX9_map rfl aX9_map 300 [] (fun cl ax hcl hax => ?_))
      refine hcl _ _ _ _ (w_ref (A := cnt1 A 4) (s := 0) (by decide) (fun q => absurd (e0.trans q) z) (fun _ q => absurd ⟨z1, z2⟩ q) (fun _ _ _ _ => ?_) (fun _ _ _ q => absurd z3 q))
      refine ⟨fun h9 => absurd h9 (by decide), fun _ => ?_⟩
      exact hcl _ _ _ _ (w_X9_finding 4 (by decide) (by decide) (hK _ _ (rEnd_cnt h (by decide))))
    · refine ⟨fun _ => ?_, fun h9 => absurd h9 (by decide)⟩
      obtain ⟨n, hn, rfl⟩ := ix_le 200 z1 z2 rfl
      refine ⟨vl 0 rfl rfl, ?_⟩
      refine hcl _ _ _ _ (w_look (n := n) (by omega) hm h.1 hx (fun R w hw => ?_))
      have em : mn (R 0) (A 65 1) = nI (min k c) := by rw [hw.1, c1]; exact mn_nI (by omega) (by omega)
      have lp := lp_X8_map0 (E := E) (d := 11) (A := LA A R w) (A0 := A) (B := B) (B0 := B) (K := K) (n := nI n) (m := min k c) (by omega) (B 66) (fun L hL => ?_) (0, B 66) ⟨by omega, fun i hi => absurd hi (by simp), fun _ _ => rfl⟩
      · rw [← em] at lp
        have e : va_up B 66 (B 66) = B := by
          funext q
          unfold va_up
          split
          · rename_i c; rw [c]
          · rfl
        rw [e] at lp
        exact hax _ _ _ _ lp
      · refine hK _ _ ?_
        clear hcl hax
        clear cl ax
        refine mCall_k (fun K hK => ?_)
        refine mCall_sem MX9_map rfl rfl (Or.inl ⟨rfl, rfl, rfl⟩) rfl (mSem_wp MX9_map rfl aX9_map 300 [54] (fun cl ax hcl hax => ?_))
        refine hcl _ _ _ _ (w_ref (A := LA A R w) (s := 0) (by decide) (fun q => absurd (e0.trans q) z) (fun _ q => absurd ⟨z1, z2⟩ q) (fun _ _ _ q => absurd q z3) (fun _ _ _ _ => ?_))
        refine ⟨fun _ => ?_, fun h9 => absurd h9 (by decide)⟩
        refine hcl _ _ _ _ (w_copy75_77 (A := LA A R w) (fun R1 h1 => ?_))
        refine hcl _ _ _ _ (w_yearsGo (A := va_up (LA A R w) 77 R1) (by omega) hm (fun N hN => ?_))
        refine ⟨vl 0 rfl rfl, ?_⟩
        refine ⟨vl 3 rfl rfl, ?_⟩
        have em2 : mn (A 83 0) (N 3) = nI (min k c) := by
          rw [hN.2.1 3 ⟨by omega, fun _ _ => by omega, fun _ _ => by omega⟩, show (va_up (LA A R w) 77 R1) 75 3 = nI k from hm.2.2.1, c2, mn_nI (by omega) (by omega), Nat.min_comm]
        have lp := lp_X9_map (E := E) (d := 10) (A := va_up (va_up (LA A R w) 77 R1) 75 N) (A0 := LA A R w) (B := va_up B 66 L) (B0 := va_up B 66 L) (K := K) (n := nI n) (s := 0) (m := min k c) (by decide) (by omega) (B 84) (fun L2 R2 hL2 h2 => ?_) (0, B 84) ⟨by omega, fun i hi => absurd hi (by simp), fun _ _ => rfl⟩
        · rw [← em2] at lp
          have e : va_up (va_up B 66 L) 84 (B 84) = va_up B 66 L := by
            funext q
            unfold va_up
            split
            · rename_i c; rw [c]; rfl
            · rfl
          rw [e] at lp
          exact hax _ _ _ _ lp
        · obtain ⟨q1, q2, q3, q4, _⟩ := rAll_back (R := R) (R1 := R1) (N := N) (v := w) h (fun q hq => (h2 q hq).trans (h1 q hq))
          refine hK _ _ ⟨rfl, rfl, q1, q2, q3, q4, ?_, ?_, ?_, ?_⟩
          · refine ⟨r0.1, r0.2.1, r0.2.2.1, fun j hj => ?_⟩
            show L j = L2 (0 + j)
            by_cases cj : j < min k c
            · have f1 : w.2.2.1 j = (TR (A 75) j n).1 := congrArg Prod.fst (hw.2.2 j (by omega) (mb12 j (by omega)))
              have f2 : N (17 + 5 * j) = (TR (A 75) j n).1 := congrArg Prod.fst (hN.2.2.1 j (by omega))
              have g1 : L (0 + j) = cut (w.2.2.1 j).toInt64 (A 65 0) := hL.1 j cj
              have g2 : L2 (0 + j) = cut (N (17 + 5 * j)).toInt64 (A 82 0) := hL2.1 j cj
              rw [show 0 + j = j by omega] at g1
              rw [g1, g2, f1, f2, e0]
            · have g1 : L j = B 66 j := hL.2 j (by omega)
              have g2 : L2 (0 + j) = B 84 (0 + j) := hL2.2 (0 + j) (by omega)
              rw [g1, g2]
              exact r0.2.2.2 j hj
          · exact rS1_c r1 ⟨rfl, rfl⟩ rfl rfl (fun _ _ => rfl) (fun j hj => hL2.2 _ (by omega))
          · exact rS1_c r2 ⟨rfl, rfl⟩ rfl rfl (fun _ _ => rfl) (fun j hj => hL2.2 _ (by omega))
          · exact rS1_c r3 ⟨rfl, rfl⟩ rfl rfl (fun _ _ => rfl) (fun j hj => hL2.2 _ (by omega))
  · have e0 := r1.1
    obtain ⟨c, hc, c1, c2⟩ := r1.2.2.1
    refine mCall_sem MX8_map rfl rfl (Or.inl ⟨rfl, rfl, rfl⟩) rfl (mSem_wp MX8_map rfl aX8_map 300 [53] (fun cl ax hcl hax => ?_))
    refine hcl _ _ _ _ (w_why1 hy (fun z => ?_) (fun z z0 => ?_) (fun z z1 z2 z3 => ?_) (fun z z1 z2 z3 => ?_))
    · refine ⟨fun h9 => absurd h9 (by decide), fun _ => ?_⟩
      refine hcl _ _ _ _ (w_X8_refuse 5 (by decide) (by decide) ?_)
      refine hK _ _ ?_
      clear hcl hax
      clear cl ax
      refine mCall_k (fun K hK => ?_)
      refine mCall_sem MX9_map rfl rfl (Or.inl ⟨rfl, rfl, rfl⟩) rfl (mSem_wp MX9_map rfl aX9_map 300 [] (fun cl ax hcl hax => ?_))
      refine hcl _ _ _ _ (w_ref (A := cnt1 A 5) (s := 1) (by decide) (fun _ => ?_) (fun q => absurd (e0.symm.trans z) q) (fun q => absurd (e0.symm.trans z) q) (fun q => absurd (e0.symm.trans z) q))
      refine ⟨fun h9 => absurd h9 (by decide), fun _ => ?_⟩
      exact hcl _ _ _ _ (w_X9_finding 5 (by decide) (by decide) (hK _ _ (rEnd_cnt h (by decide))))
    · refine ⟨fun h9 => absurd h9 (by decide), fun _ => ?_⟩
      refine hcl _ _ _ _ (w_X8_refuse 0 (by decide) (by decide) ?_)
      refine hK _ _ ?_
      clear hcl hax
      clear cl ax
      refine mCall_k (fun K hK => ?_)
      refine mCall_sem MX9_map rfl rfl (Or.inl ⟨rfl, rfl, rfl⟩) rfl (mSem_wp MX9_map rfl aX9_map 300 [] (fun cl ax hcl hax => ?_))
      refine hcl _ _ _ _ (w_ref (A := cnt1 A 0) (s := 1) (by decide) (fun q => absurd (e0.trans q) z) (fun _ _ => ?_) (fun _ q1 q2 => absurd ⟨q1, q2⟩ z0) (fun _ q1 q2 => absurd ⟨q1, q2⟩ z0))
      refine ⟨fun h9 => absurd h9 (by decide), fun _ => ?_⟩
      exact hcl _ _ _ _ (w_X9_finding 0 (by decide) (by decide) (hK _ _ (rEnd_cnt h (by decide))))
    · refine ⟨fun h9 => absurd h9 (by decide), fun _ => ?_⟩
      refine hcl _ _ _ _ (w_X8_refuse 4 (by decide) (by decide) ?_)
      refine hK _ _ ?_
      clear hcl hax
      clear cl ax
      refine mCall_k (fun K hK => ?_)
      refine mCall_sem MX9_map rfl rfl (Or.inl ⟨rfl, rfl, rfl⟩) rfl (mSem_wp MX9_map rfl aX9_map 300 [] (fun cl ax hcl hax => ?_))
      refine hcl _ _ _ _ (w_ref (A := cnt1 A 4) (s := 1) (by decide) (fun q => absurd (e0.trans q) z) (fun _ q => absurd ⟨z1, z2⟩ q) (fun _ _ _ _ => ?_) (fun _ _ _ q => absurd z3 q))
      refine ⟨fun h9 => absurd h9 (by decide), fun _ => ?_⟩
      exact hcl _ _ _ _ (w_X9_finding 4 (by decide) (by decide) (hK _ _ (rEnd_cnt h (by decide))))
    · refine ⟨fun _ => ?_, fun h9 => absurd h9 (by decide)⟩
      obtain ⟨n, hn, rfl⟩ := ix_le 200 z1 z2 rfl
      refine ⟨vl 1 rfl rfl, ?_⟩
      refine hcl _ _ _ _ (w_look (n := n) (by omega) hm h.1 hx (fun R w hw => ?_))
      have em : mn (R 0) (A 67 1) = nI (min k c) := by rw [hw.1, c1]; exact mn_nI (by omega) (by omega)
      have lp := lp_X8_map1 (E := E) (d := 11) (A := LA A R w) (A0 := A) (B := B) (B0 := B) (K := K) (n := nI n) (m := min k c) (by omega) (B 68) (fun L hL => ?_) (0, B 68) ⟨by omega, fun i hi => absurd hi (by simp), fun _ _ => rfl⟩
      · rw [← em] at lp
        have e : va_up B 68 (B 68) = B := by
          funext q
          unfold va_up
          split
          · rename_i c; rw [c]
          · rfl
        rw [e] at lp
        exact hax _ _ _ _ lp
      · refine hK _ _ ?_
        clear hcl hax
        clear cl ax
        refine mCall_k (fun K hK => ?_)
        refine mCall_sem MX9_map rfl rfl (Or.inl ⟨rfl, rfl, rfl⟩) rfl (mSem_wp MX9_map rfl aX9_map 300 [54] (fun cl ax hcl hax => ?_))
        refine hcl _ _ _ _ (w_ref (A := LA A R w) (s := 1) (by decide) (fun q => absurd (e0.trans q) z) (fun _ q => absurd ⟨z1, z2⟩ q) (fun _ _ _ q => absurd q z3) (fun _ _ _ _ => ?_))
        refine ⟨fun _ => ?_, fun h9 => absurd h9 (by decide)⟩
        refine hcl _ _ _ _ (w_copy75_77 (A := LA A R w) (fun R1 h1 => ?_))
        refine hcl _ _ _ _ (w_yearsGo (A := va_up (LA A R w) 77 R1) (by omega) hm (fun N hN => ?_))
        refine ⟨vl 1 rfl rfl, ?_⟩
        refine ⟨vl 3 rfl rfl, ?_⟩
        have em2 : mn (A 83 1) (N 3) = nI (min k c) := by
          rw [hN.2.1 3 ⟨by omega, fun _ _ => by omega, fun _ _ => by omega⟩, show (va_up (LA A R w) 77 R1) 75 3 = nI k from hm.2.2.1, c2, mn_nI (by omega) (by omega), Nat.min_comm]
        have lp := lp_X9_map (E := E) (d := 10) (A := va_up (va_up (LA A R w) 77 R1) 75 N) (A0 := LA A R w) (B := va_up B 68 L) (B0 := va_up B 68 L) (K := K) (n := nI n) (s := 1) (m := min k c) (by decide) (by omega) (B 84) (fun L2 R2 hL2 h2 => ?_) (0, B 84) ⟨by omega, fun i hi => absurd hi (by simp), fun _ _ => rfl⟩
        · rw [← em2] at lp
          have e : va_up (va_up B 68 L) 84 (B 84) = va_up B 68 L := by
            funext q
            unfold va_up
            split
            · rename_i c; rw [c]; rfl
            · rfl
          rw [e] at lp
          exact hax _ _ _ _ lp
        · obtain ⟨q1, q2, q3, q4, _⟩ := rAll_back (R := R) (R1 := R1) (N := N) (v := w) h (fun q hq => (h2 q hq).trans (h1 q hq))
          refine hK _ _ ⟨rfl, rfl, q1, q2, q3, q4, ?_, ?_, ?_, ?_⟩
          · exact rS1_c r0 ⟨rfl, rfl⟩ rfl rfl (fun _ _ => rfl) (fun j hj => hL2.2 _ (by omega))
          · refine ⟨r1.1, r1.2.1, r1.2.2.1, fun j hj => ?_⟩
            show L j = L2 (40 + j)
            by_cases cj : j < min k c
            · have f1 : w.2.2.1 j = (TR (A 75) j n).1 := congrArg Prod.fst (hw.2.2 j (by omega) (mb12 j (by omega)))
              have f2 : N (17 + 5 * j) = (TR (A 75) j n).1 := congrArg Prod.fst (hN.2.2.1 j (by omega))
              have g1 : L (0 + j) = cut (w.2.2.1 j).toInt64 (A 67 0) := hL.1 j cj
              have g2 : L2 (40 + j) = cut (N (17 + 5 * j)).toInt64 (A 82 1) := hL2.1 j cj
              rw [show 0 + j = j by omega] at g1
              rw [g1, g2, f1, f2, e0]
            · have g1 : L j = B 68 j := hL.2 j (by omega)
              have g2 : L2 (40 + j) = B 84 (40 + j) := hL2.2 (40 + j) (by omega)
              rw [g1, g2]
              exact r1.2.2.2 j hj
          · exact rS1_c r2 ⟨rfl, rfl⟩ rfl rfl (fun _ _ => rfl) (fun j hj => hL2.2 _ (by omega))
          · exact rS1_c r3 ⟨rfl, rfl⟩ rfl rfl (fun _ _ => rfl) (fun j hj => hL2.2 _ (by omega))
  · have e0 := r2.1
    obtain ⟨c, hc, c1, c2⟩ := r2.2.2.1
    refine mCall_sem MX8_map rfl rfl (Or.inl ⟨rfl, rfl, rfl⟩) rfl (mSem_wp MX8_map rfl aX8_map 300 [53] (fun cl ax hcl hax => ?_))
    refine hcl _ _ _ _ (w_why2 hy (fun z => ?_) (fun z z0 => ?_) (fun z z1 z2 z3 => ?_) (fun z z1 z2 z3 => ?_))
    · refine ⟨fun h9 => absurd h9 (by decide), fun _ => ?_⟩
      refine hcl _ _ _ _ (w_X8_refuse 5 (by decide) (by decide) ?_)
      refine hK _ _ ?_
      clear hcl hax
      clear cl ax
      refine mCall_k (fun K hK => ?_)
      refine mCall_sem MX9_map rfl rfl (Or.inl ⟨rfl, rfl, rfl⟩) rfl (mSem_wp MX9_map rfl aX9_map 300 [] (fun cl ax hcl hax => ?_))
      refine hcl _ _ _ _ (w_ref (A := cnt1 A 5) (s := 2) (by decide) (fun _ => ?_) (fun q => absurd (e0.symm.trans z) q) (fun q => absurd (e0.symm.trans z) q) (fun q => absurd (e0.symm.trans z) q))
      refine ⟨fun h9 => absurd h9 (by decide), fun _ => ?_⟩
      exact hcl _ _ _ _ (w_X9_finding 5 (by decide) (by decide) (hK _ _ (rEnd_cnt h (by decide))))
    · refine ⟨fun h9 => absurd h9 (by decide), fun _ => ?_⟩
      refine hcl _ _ _ _ (w_X8_refuse 0 (by decide) (by decide) ?_)
      refine hK _ _ ?_
      clear hcl hax
      clear cl ax
      refine mCall_k (fun K hK => ?_)
      refine mCall_sem MX9_map rfl rfl (Or.inl ⟨rfl, rfl, rfl⟩) rfl (mSem_wp MX9_map rfl aX9_map 300 [] (fun cl ax hcl hax => ?_))
      refine hcl _ _ _ _ (w_ref (A := cnt1 A 0) (s := 2) (by decide) (fun q => absurd (e0.trans q) z) (fun _ _ => ?_) (fun _ q1 q2 => absurd ⟨q1, q2⟩ z0) (fun _ q1 q2 => absurd ⟨q1, q2⟩ z0))
      refine ⟨fun h9 => absurd h9 (by decide), fun _ => ?_⟩
      exact hcl _ _ _ _ (w_X9_finding 0 (by decide) (by decide) (hK _ _ (rEnd_cnt h (by decide))))
    · refine ⟨fun h9 => absurd h9 (by decide), fun _ => ?_⟩
      refine hcl _ _ _ _ (w_X8_refuse 4 (by decide) (by decide) ?_)
      refine hK _ _ ?_
      clear hcl hax
      clear cl ax
      refine mCall_k (fun K hK => ?_)
      refine mCall_sem MX9_map rfl rfl (Or.inl ⟨rfl, rfl, rfl⟩) rfl (mSem_wp MX9_map rfl aX9_map 300 [] (fun cl ax hcl hax => ?_))
      refine hcl _ _ _ _ (w_ref (A := cnt1 A 4) (s := 2) (by decide) (fun q => absurd (e0.trans q) z) (fun _ q => absurd ⟨z1, z2⟩ q) (fun _ _ _ _ => ?_) (fun _ _ _ q => absurd z3 q))
      refine ⟨fun h9 => absurd h9 (by decide), fun _ => ?_⟩
      exact hcl _ _ _ _ (w_X9_finding 4 (by decide) (by decide) (hK _ _ (rEnd_cnt h (by decide))))
    · refine ⟨fun _ => ?_, fun h9 => absurd h9 (by decide)⟩
      obtain ⟨n, hn, rfl⟩ := ix_le 200 z1 z2 rfl
      refine ⟨vl 2 rfl rfl, ?_⟩
      refine hcl _ _ _ _ (w_look (n := n) (by omega) hm h.1 hx (fun R w hw => ?_))
      have em : mn (R 0) (A 69 1) = nI (min k c) := by rw [hw.1, c1]; exact mn_nI (by omega) (by omega)
      have lp := lp_X8_map2 (E := E) (d := 11) (A := LA A R w) (A0 := A) (B := B) (B0 := B) (K := K) (n := nI n) (m := min k c) (by omega) (B 70) (fun L hL => ?_) (0, B 70) ⟨by omega, fun i hi => absurd hi (by simp), fun _ _ => rfl⟩
      · rw [← em] at lp
        have e : va_up B 70 (B 70) = B := by
          funext q
          unfold va_up
          split
          · rename_i c; rw [c]
          · rfl
        rw [e] at lp
        exact hax _ _ _ _ lp
      · refine hK _ _ ?_
        clear hcl hax
        clear cl ax
        refine mCall_k (fun K hK => ?_)
        refine mCall_sem MX9_map rfl rfl (Or.inl ⟨rfl, rfl, rfl⟩) rfl (mSem_wp MX9_map rfl aX9_map 300 [54] (fun cl ax hcl hax => ?_))
        refine hcl _ _ _ _ (w_ref (A := LA A R w) (s := 2) (by decide) (fun q => absurd (e0.trans q) z) (fun _ q => absurd ⟨z1, z2⟩ q) (fun _ _ _ q => absurd q z3) (fun _ _ _ _ => ?_))
        refine ⟨fun _ => ?_, fun h9 => absurd h9 (by decide)⟩
        refine hcl _ _ _ _ (w_copy75_77 (A := LA A R w) (fun R1 h1 => ?_))
        refine hcl _ _ _ _ (w_yearsGo (A := va_up (LA A R w) 77 R1) (by omega) hm (fun N hN => ?_))
        refine ⟨vl 2 rfl rfl, ?_⟩
        refine ⟨vl 3 rfl rfl, ?_⟩
        have em2 : mn (A 83 2) (N 3) = nI (min k c) := by
          rw [hN.2.1 3 ⟨by omega, fun _ _ => by omega, fun _ _ => by omega⟩, show (va_up (LA A R w) 77 R1) 75 3 = nI k from hm.2.2.1, c2, mn_nI (by omega) (by omega), Nat.min_comm]
        have lp := lp_X9_map (E := E) (d := 10) (A := va_up (va_up (LA A R w) 77 R1) 75 N) (A0 := LA A R w) (B := va_up B 70 L) (B0 := va_up B 70 L) (K := K) (n := nI n) (s := 2) (m := min k c) (by decide) (by omega) (B 84) (fun L2 R2 hL2 h2 => ?_) (0, B 84) ⟨by omega, fun i hi => absurd hi (by simp), fun _ _ => rfl⟩
        · rw [← em2] at lp
          have e : va_up (va_up B 70 L) 84 (B 84) = va_up B 70 L := by
            funext q
            unfold va_up
            split
            · rename_i c; rw [c]; rfl
            · rfl
          rw [e] at lp
          exact hax _ _ _ _ lp
        · obtain ⟨q1, q2, q3, q4, _⟩ := rAll_back (R := R) (R1 := R1) (N := N) (v := w) h (fun q hq => (h2 q hq).trans (h1 q hq))
          refine hK _ _ ⟨rfl, rfl, q1, q2, q3, q4, ?_, ?_, ?_, ?_⟩
          · exact rS1_c r0 ⟨rfl, rfl⟩ rfl rfl (fun _ _ => rfl) (fun j hj => hL2.2 _ (by omega))
          · exact rS1_c r1 ⟨rfl, rfl⟩ rfl rfl (fun _ _ => rfl) (fun j hj => hL2.2 _ (by omega))
          · refine ⟨r2.1, r2.2.1, r2.2.2.1, fun j hj => ?_⟩
            show L j = L2 (80 + j)
            by_cases cj : j < min k c
            · have f1 : w.2.2.1 j = (TR (A 75) j n).1 := congrArg Prod.fst (hw.2.2 j (by omega) (mb12 j (by omega)))
              have f2 : N (17 + 5 * j) = (TR (A 75) j n).1 := congrArg Prod.fst (hN.2.2.1 j (by omega))
              have g1 : L (0 + j) = cut (w.2.2.1 j).toInt64 (A 69 0) := hL.1 j cj
              have g2 : L2 (80 + j) = cut (N (17 + 5 * j)).toInt64 (A 82 2) := hL2.1 j cj
              rw [show 0 + j = j by omega] at g1
              rw [g1, g2, f1, f2, e0]
            · have g1 : L j = B 70 j := hL.2 j (by omega)
              have g2 : L2 (80 + j) = B 84 (80 + j) := hL2.2 (80 + j) (by omega)
              rw [g1, g2]
              exact r2.2.2.2 j hj
          · exact rS1_c r3 ⟨rfl, rfl⟩ rfl rfl (fun _ _ => rfl) (fun j hj => hL2.2 _ (by omega))
  · have e0 := r3.1
    obtain ⟨c, hc, c1, c2⟩ := r3.2.2.1
    refine mCall_sem MX8_map rfl rfl (Or.inl ⟨rfl, rfl, rfl⟩) rfl (mSem_wp MX8_map rfl aX8_map 300 [53] (fun cl ax hcl hax => ?_))
    refine hcl _ _ _ _ (w_why3 hy (fun z => ?_) (fun z z0 => ?_) (fun z z1 z2 z3 => ?_) (fun z z1 z2 z3 => ?_))
    · refine ⟨fun h9 => absurd h9 (by decide), fun _ => ?_⟩
      refine hcl _ _ _ _ (w_X8_refuse 5 (by decide) (by decide) ?_)
      refine hK _ _ ?_
      clear hcl hax
      clear cl ax
      refine mCall_k (fun K hK => ?_)
      refine mCall_sem MX9_map rfl rfl (Or.inl ⟨rfl, rfl, rfl⟩) rfl (mSem_wp MX9_map rfl aX9_map 300 [] (fun cl ax hcl hax => ?_))
      refine hcl _ _ _ _ (w_ref (A := cnt1 A 5) (s := 3) (by decide) (fun _ => ?_) (fun q => absurd (e0.symm.trans z) q) (fun q => absurd (e0.symm.trans z) q) (fun q => absurd (e0.symm.trans z) q))
      refine ⟨fun h9 => absurd h9 (by decide), fun _ => ?_⟩
      exact hcl _ _ _ _ (w_X9_finding 5 (by decide) (by decide) (hK _ _ (rEnd_cnt h (by decide))))
    · refine ⟨fun h9 => absurd h9 (by decide), fun _ => ?_⟩
      refine hcl _ _ _ _ (w_X8_refuse 0 (by decide) (by decide) ?_)
      refine hK _ _ ?_
      clear hcl hax
      clear cl ax
      refine mCall_k (fun K hK => ?_)
      refine mCall_sem MX9_map rfl rfl (Or.inl ⟨rfl, rfl, rfl⟩) rfl (mSem_wp MX9_map rfl aX9_map 300 [] (fun cl ax hcl hax => ?_))
      refine hcl _ _ _ _ (w_ref (A := cnt1 A 0) (s := 3) (by decide) (fun q => absurd (e0.trans q) z) (fun _ _ => ?_) (fun _ q1 q2 => absurd ⟨q1, q2⟩ z0) (fun _ q1 q2 => absurd ⟨q1, q2⟩ z0))
      refine ⟨fun h9 => absurd h9 (by decide), fun _ => ?_⟩
      exact hcl _ _ _ _ (w_X9_finding 0 (by decide) (by decide) (hK _ _ (rEnd_cnt h (by decide))))
    · refine ⟨fun h9 => absurd h9 (by decide), fun _ => ?_⟩
      refine hcl _ _ _ _ (w_X8_refuse 4 (by decide) (by decide) ?_)
      refine hK _ _ ?_
      clear hcl hax
      clear cl ax
      refine mCall_k (fun K hK => ?_)
      refine mCall_sem MX9_map rfl rfl (Or.inl ⟨rfl, rfl, rfl⟩) rfl (mSem_wp MX9_map rfl aX9_map 300 [] (fun cl ax hcl hax => ?_))
      refine hcl _ _ _ _ (w_ref (A := cnt1 A 4) (s := 3) (by decide) (fun q => absurd (e0.trans q) z) (fun _ q => absurd ⟨z1, z2⟩ q) (fun _ _ _ _ => ?_) (fun _ _ _ q => absurd z3 q))
      refine ⟨fun h9 => absurd h9 (by decide), fun _ => ?_⟩
      exact hcl _ _ _ _ (w_X9_finding 4 (by decide) (by decide) (hK _ _ (rEnd_cnt h (by decide))))
    · refine ⟨fun _ => ?_, fun h9 => absurd h9 (by decide)⟩
      obtain ⟨n, hn, rfl⟩ := ix_le 200 z1 z2 rfl
      refine ⟨vl 3 rfl rfl, ?_⟩
      refine hcl _ _ _ _ (w_look (n := n) (by omega) hm h.1 hx (fun R w hw => ?_))
      have em : mn (R 0) (A 71 1) = nI (min k c) := by rw [hw.1, c1]; exact mn_nI (by omega) (by omega)
      have lp := lp_X8_map3 (E := E) (d := 11) (A := LA A R w) (A0 := A) (B := B) (B0 := B) (K := K) (n := nI n) (m := min k c) (by omega) (B 72) (fun L hL => ?_) (0, B 72) ⟨by omega, fun i hi => absurd hi (by simp), fun _ _ => rfl⟩
      · rw [← em] at lp
        have e : va_up B 72 (B 72) = B := by
          funext q
          unfold va_up
          split
          · rename_i c; rw [c]
          · rfl
        rw [e] at lp
        exact hax _ _ _ _ lp
      · refine hK _ _ ?_
        clear hcl hax
        clear cl ax
        refine mCall_k (fun K hK => ?_)
        refine mCall_sem MX9_map rfl rfl (Or.inl ⟨rfl, rfl, rfl⟩) rfl (mSem_wp MX9_map rfl aX9_map 300 [54] (fun cl ax hcl hax => ?_))
        refine hcl _ _ _ _ (w_ref (A := LA A R w) (s := 3) (by decide) (fun q => absurd (e0.trans q) z) (fun _ q => absurd ⟨z1, z2⟩ q) (fun _ _ _ q => absurd q z3) (fun _ _ _ _ => ?_))
        refine ⟨fun _ => ?_, fun h9 => absurd h9 (by decide)⟩
        refine hcl _ _ _ _ (w_copy75_77 (A := LA A R w) (fun R1 h1 => ?_))
        refine hcl _ _ _ _ (w_yearsGo (A := va_up (LA A R w) 77 R1) (by omega) hm (fun N hN => ?_))
        refine ⟨vl 3 rfl rfl, ?_⟩
        refine ⟨vl 3 rfl rfl, ?_⟩
        have em2 : mn (A 83 3) (N 3) = nI (min k c) := by
          rw [hN.2.1 3 ⟨by omega, fun _ _ => by omega, fun _ _ => by omega⟩, show (va_up (LA A R w) 77 R1) 75 3 = nI k from hm.2.2.1, c2, mn_nI (by omega) (by omega), Nat.min_comm]
        have lp := lp_X9_map (E := E) (d := 10) (A := va_up (va_up (LA A R w) 77 R1) 75 N) (A0 := LA A R w) (B := va_up B 72 L) (B0 := va_up B 72 L) (K := K) (n := nI n) (s := 3) (m := min k c) (by decide) (by omega) (B 84) (fun L2 R2 hL2 h2 => ?_) (0, B 84) ⟨by omega, fun i hi => absurd hi (by simp), fun _ _ => rfl⟩
        · rw [← em2] at lp
          have e : va_up (va_up B 72 L) 84 (B 84) = va_up B 72 L := by
            funext q
            unfold va_up
            split
            · rename_i c; rw [c]; rfl
            · rfl
          rw [e] at lp
          exact hax _ _ _ _ lp
        · obtain ⟨q1, q2, q3, q4, _⟩ := rAll_back (R := R) (R1 := R1) (N := N) (v := w) h (fun q hq => (h2 q hq).trans (h1 q hq))
          refine hK _ _ ⟨rfl, rfl, q1, q2, q3, q4, ?_, ?_, ?_, ?_⟩
          · exact rS1_c r0 ⟨rfl, rfl⟩ rfl rfl (fun _ _ => rfl) (fun j hj => hL2.2 _ (by omega))
          · exact rS1_c r1 ⟨rfl, rfl⟩ rfl rfl (fun _ _ => rfl) (fun j hj => hL2.2 _ (by omega))
          · exact rS1_c r2 ⟨rfl, rfl⟩ rfl rfl (fun _ _ => rfl) (fun j hj => hL2.2 _ (by omega))
          · refine ⟨r3.1, r3.2.1, r3.2.2.1, fun j hj => ?_⟩
            show L j = L2 (120 + j)
            by_cases cj : j < min k c
            · have f1 : w.2.2.1 j = (TR (A 75) j n).1 := congrArg Prod.fst (hw.2.2 j (by omega) (mb12 j (by omega)))
              have f2 : N (17 + 5 * j) = (TR (A 75) j n).1 := congrArg Prod.fst (hN.2.2.1 j (by omega))
              have g1 : L (0 + j) = cut (w.2.2.1 j).toInt64 (A 71 0) := hL.1 j cj
              have g2 : L2 (120 + j) = cut (N (17 + 5 * j)).toInt64 (A 82 3) := hL2.1 j cj
              rw [show 0 + j = j by omega] at g1
              rw [g1, g2, f1, f2, e0]
            · have g1 : L j = B 72 j := hL.2 j (by omega)
              have g2 : L2 (120 + j) = B 84 (120 + j) := hL2.2 (120 + j) (by omega)
              rw [g1, g2]
              exact r3.2.2.2 j hj
