/-! lay -/
theorem lp_X9_lay {E : ME} {d : Nat} {A A0 : Nat → Nat → Int32} {B : Nat → Nat → Int64} {K : MK} {n l : Nat} (hn : n ≤ 60) (hl : l < 9) {v g e : Int32} (hK : K (some (.int (sb (fun j => fl (A 75 2) (A 75 (6 + l)) (A 75 1 + nI j)) e n))) (SH, A, B)) : ∀ j, j ≤ n → mSem E (d + 3) nX9_lay (SH, A0, B) 0 0 K 98 [some (.ref 74), some (.int v), some (.int (nI l)), some (.int (nI n)), some (.int g), some (.int (sb (fun j => fl (A 75 2) (A 75 (6 + l)) (A 75 1 + nI j)) e j)), some (.int (nI j))] [] (SH, A, B) := by
  refine mSem_loop (h0 := (SH, A0, B)) MX9_lay rfl aX9_lay 300 [98] (fun j => [some (.ref 74), some (.int v), some (.int (nI l)), some (.int (nI n)), some (.int g), some (.int (sb (fun j => fl (A 75 2) (A 75 (6 + l)) (A 75 1 + nI j)) e j)), some (.int (nI j))]) (fun j => (SH, A, B)) (fun j => j ≤ n) (fun j => n - j) ?_
  intro j hj cl ax hcl hax hlp
  refine ⟨fun (c : nI n ≤ nI j) => ?_, fun (c : ¬ nI n ≤ nI j) => ?_⟩
  · rw [nI_leI (by omega) (by omega)] at c
    have : j = n := by omega
    subst this
    exact hK
  · rw [nI_leI (by omega) (by omega)] at c
    refine ⟨vl 1 rfl rfl, ?_⟩
    refine hcl _ _ _ _ (w_iceOf l hl rfl ?_)
    have this : ax 98 [some (.ref 74), some (.int v), some (.int (nI l)), some (.int (nI n)), some (.int g), some (.int (sb (fun j => fl (A 75 2) (A 75 (6 + l)) (A 75 1 + nI j)) e (j + 1))), some (.int (nI (j + 1)))] [] (SH, A, B) := hlp (j + 1) (by omega) (by omega)
    rw [← nI_1, sb] at this
    exact this
theorem op_lay {E : ME} {v u w : Int32} {A : Nat → Nat → Int32} {B : Nat → Nat → Int64} (h : rAll A B) : rOp E nX8_lay nX9_lay [.int v, .int u, .int w] A B := by
  obtain ⟨k, t, hm, hx, hx2⟩ := hM_of h.1
  have hice := h.1.1
  have hy : A 2 2 = A 75 1 := h.1.1.1.2.2
  have hw2 : A 2 1 = A 75 2 := h.1.1.1.2.1
  have hyr := hice.2.2.2.1
  have hwr := hice.2.2.2.2.1
  have k12 := hm.1
  refine rOp_of (fun K hK => ?_)
  refine mCall_sem MX8_lay rfl rfl (Or.inl ⟨rfl, rfl, rfl⟩) rfl (mSem_wp MX8_lay rfl aX8_lay 300 [] (fun cl ax hcl hax => ?_))
  refine hcl _ _ _ _ (w_X8_isHouse hx (fun a1 a2 => ?_) (fun a0 => ?_))
  · refine ⟨fun h9 => absurd h9 (by decide), fun _ => ?_⟩
    refine hcl _ _ _ _ (w_X8_isLane (fun d1 d2 => ?_) (fun d0 => ?_))
    · refine ⟨fun h9 => absurd h9 (by decide), fun _ => ?_⟩
      refine hcl _ _ _ _ (w_X8 (fun b1 b2 => ?_) (fun b0 => ?_))
      · refine ⟨fun _ => ?_, fun h9 => absurd h9 (by decide)⟩
        obtain ⟨j, hj, rfl⟩ := ho_ix k12 a1 a2
        obtain ⟨n, hn, rfl⟩ := ix_le 60 b1 b2 rfl
        obtain ⟨l, hl, rfl⟩ := ix_le 8 d1 d2 rfl
        have e8 : (nI j).toNatClampNeg = j := nI_clamp (by omega)
        have el : (nI l).toNatClampNeg = l := nI_clamp (by omega)
        refine hcl _ _ _ _ (w_X8_isPast (y := A 75 1) hy (fun c => ?_) (fun c => ?_))
        · refine ⟨fun h9 => absurd h9 (by decide), fun _ => ?_⟩
          refine hcl _ _ _ _ (w_X8_refuse 4 (by decide) (by decide) ?_)
          refine hK _ _ ?_
          clear hcl hax
          clear cl ax
          refine mCall_k (fun K hK => ?_)
          refine mCall_sem MX9_lay rfl rfl (Or.inl ⟨rfl, rfl, rfl⟩) rfl (mSem_wp MX9_lay rfl aX9_lay 300 [] (fun cl ax hcl hax => ?_))
          refine hcl _ _ _ _ (w_X9_isHouse (n := nI k) hm.2.2.1 (fun _ _ => ?_) (fun c0 => absurd (And.intro a1 a2) c0))
          refine ⟨fun h9 => absurd h9 (by decide), fun _ => ?_⟩
          refine hcl _ _ _ _ (w_X9_isLane (fun _ _ => ?_) (fun c0 => absurd (And.intro d1 d2) c0))
          refine ⟨fun h9 => absurd h9 (by decide), fun _ => ?_⟩
          refine hcl _ _ _ _ (w_X9 (fun _ _ => ?_) (fun c0 => absurd (And.intro b1 b2) c0))
          refine ⟨fun _ => ?_, fun h9 => absurd h9 (by decide)⟩
          refine hcl _ _ _ _ (w_X9_isTooLate (y := A 75 1) rfl (fun _ => ?_) (fun c0 => absurd c c0))
          refine ⟨fun h9 => absurd h9 (by decide), fun _ => ?_⟩
          exact hcl _ _ _ _ (w_X9_finding 4 (by decide) (by decide) (hK _ _ (rEnd_cnt h (by decide))))
        · refine ⟨fun _ => ?_, fun h9 => absurd h9 (by decide)⟩
          refine hcl _ _ _ _ (w_look (by omega) hm h.1 hx (fun R w hw => ?_))
          have qf : w.2.2.1 j = (TR (A 75) j n).1 := congrArg Prod.fst (hw.2.2 j hj (mb1 j (by omega)))
          have qg : w.2.2.2.2 j = (TR (A 75) j n).2 := congrArg Prod.snd (hw.2.2 j hj (mb1 j (by omega)))
          have tg := TR_gone (hm.2.2.2.2.1 j hj).2 n
          refine ⟨vp_in_nI (N := 12) (by omega) (by decide), ?_⟩
          refine ⟨fun (c1 : w.2.2.2.2 (nI j).toNatClampNeg = 0) => ?_, fun (c1 : ¬ w.2.2.2.2 (nI j).toNatClampNeg = 0) => ?_⟩
          · rw [e8, qg] at c1
            refine ⟨vp_in_nI (N := 12) (by omega) (by decide), ?_⟩
            refine ⟨vp_in_nI (N := 9) (by omega) (by decide), ?_⟩
            refine hcl _ _ _ _ (w_wayAt (A := LA A R w) n rfl (by omega) (show 0 ≤ A 2 2 by rw [hy]; exact hyr.1) (show A 2 2 ≤ 999 by rw [hy]; exact hyr.2) (show 0 ≤ A 2 1 by rw [hw2]; exact hwr.1) (show A 2 1 ≤ 127 by rw [hw2]; exact hwr.2) ?_)
            refine hK _ _ ?_
            clear hcl hax
            clear cl ax
            refine mCall_k (fun K hK => ?_)
            refine mCall_sem MX9_lay rfl rfl (Or.inl ⟨rfl, rfl, rfl⟩) rfl (mSem_wp MX9_lay rfl aX9_lay 300 [98] (fun cl ax hcl hax => ?_))
            refine hcl _ _ _ _ (w_X9_isHouse (n := nI k) hm.2.2.1 (fun _ _ => ?_) (fun c0 => absurd (And.intro a1 a2) c0))
            refine ⟨fun h9 => absurd h9 (by decide), fun _ => ?_⟩
            refine hcl _ _ _ _ (w_X9_isLane (fun _ _ => ?_) (fun c0 => absurd (And.intro d1 d2) c0))
            refine ⟨fun h9 => absurd h9 (by decide), fun _ => ?_⟩
            refine hcl _ _ _ _ (w_X9 (fun _ _ => ?_) (fun c0 => absurd (And.intro b1 b2) c0))
            refine ⟨fun _ => ?_, fun h9 => absurd h9 (by decide)⟩
            refine hcl _ _ _ _ (w_X9_isTooLate (y := A 75 1) rfl (fun c0 => absurd c0 c) (fun _ => ?_))
            refine ⟨fun _ => ?_, fun h9 => absurd h9 (by decide)⟩
            refine hcl _ _ _ _ (w_copy75_77 (A := LA A R w) (fun R1 h1 => ?_))
            refine hcl _ _ _ _ (w_yearsGo (A := va_up (LA A R w) 77 R1) (by omega) hm (fun N hN => ?_))
            have q : N (19 + 5 * j) = (TR (A 75) j n).2 := congrArg Prod.snd (hN.2.2.1 j hj)
            have q1 : N (17 + 5 * j) = (TR (A 75) j n).1 := congrArg Prod.fst (hN.2.2.1 j hj)
            refine hcl _ _ _ _ (w_isGone (A := va_up (va_up (LA A R w) 77 R1) 75 N) j (by omega) (fun (c2 : N (19 + 5 * j) = 1) => absurd (c2.symm.trans (q.trans c1)) (by decide)) (fun _ => ?_))
            refine hcl _ _ _ _ (w_houseIs (17 + 5 * j) (by omega) (hIx j 2 _ (by omega)) ?_)
            refine hcl _ _ _ _ (w_putBack (A := va_up (va_up (LA A R w) 77 R1) 75 N) (fun R2 h2 => ?_))
            refine ⟨fun _ => ?_, fun h9 => absurd h9 (by decide)⟩
            have hR : ∀ q, q < 135 → R2 q = A 75 q := fun q hq => (h2 q hq).trans (h1 q hq)
            refine hax _ _ _ _ (lp_X9_lay (A := va_up (va_up (va_up (LA A R w) 77 R1) 75 N) 75 R2) hn (by omega) ?_ 0 (by omega))
            refine hK _ _ ⟨?_, rfl, rAll_back h hR⟩
            show some (Value.int (w.2.2.1 (nI j).toNatClampNeg - sa (fun i => fl (A 2 1) (A 3 (nI l).toNatClampNeg) (A 2 2 + nI i)) 0 n)) = some (Value.int (sb (fun i => fl (R2 2) (R2 (6 + l)) (R2 1 + nI i)) (N (17 + 5 * j)) n))
            rw [sb_sa, e8, el, qf, q1, hR 2 (by omega), hR (6 + l) (by omega), hR 1 (by omega), hw2, hy, hice.2.1 l (by omega)]
          · rw [e8, qg] at c1
            have c1 := tg.resolve_left c1
            refine hcl _ _ _ _ (w_X8_refuse (A := LA A R w) 4 (by decide) (by decide) ?_)
            refine hK _ _ ?_
            clear hcl hax
            clear cl ax
            refine mCall_k (fun K hK => ?_)
            refine mCall_sem MX9_lay rfl rfl (Or.inl ⟨rfl, rfl, rfl⟩) rfl (mSem_wp MX9_lay rfl aX9_lay 300 [] (fun cl ax hcl hax => ?_))
            refine hcl _ _ _ _ (w_X9_isHouse (n := nI k) hm.2.2.1 (fun _ _ => ?_) (fun c0 => absurd (And.intro a1 a2) c0))
            refine ⟨fun h9 => absurd h9 (by decide), fun _ => ?_⟩
            refine hcl _ _ _ _ (w_X9_isLane (fun _ _ => ?_) (fun c0 => absurd (And.intro d1 d2) c0))
            refine ⟨fun h9 => absurd h9 (by decide), fun _ => ?_⟩
            refine hcl _ _ _ _ (w_X9 (fun _ _ => ?_) (fun c0 => absurd (And.intro b1 b2) c0))
            refine ⟨fun _ => ?_, fun h9 => absurd h9 (by decide)⟩
            refine hcl _ _ _ _ (w_X9_isTooLate (y := A 75 1) rfl (fun c0 => absurd c0 c) (fun _ => ?_))
            refine ⟨fun _ => ?_, fun h9 => absurd h9 (by decide)⟩
            refine hcl _ _ _ _ (w_copy75_77 (A := cnt1 (LA A R w) 4) (fun R1 h1 => ?_))
            refine hcl _ _ _ _ (w_yearsGo (A := va_up (cnt1 (LA A R w) 4) 77 R1) (by omega) hm (fun N hN => ?_))
            have q : N (19 + 5 * j) = (TR (A 75) j n).2 := congrArg Prod.snd (hN.2.2.1 j hj)
            refine hcl _ _ _ _ (w_isGone (A := va_up (va_up (cnt1 (LA A R w) 4) 77 R1) 75 N) j (by omega) (fun _ => ?_) (fun (c2 : ¬ N (19 + 5 * j) = 1) => absurd (q.trans c1) c2))
            refine hcl _ _ _ _ (w_houseIs (17 + 5 * j) (by omega) (hIx j 2 _ (by omega)) ?_)
            refine hcl _ _ _ _ (w_putBack (A := va_up (va_up (cnt1 (LA A R w) 4) 77 R1) 75 N) (fun R2 h2 => ?_))
            refine ⟨fun h9 => absurd h9 (by decide), fun _ => ?_⟩
            refine hcl _ _ _ _ (w_X9_finding 4 (by decide) (by decide) ?_)
            exact hK _ _ ⟨rfl, rfl, rAll_backc h (fun q hq => (h2 q hq).trans (h1 q hq)) (by decide)⟩
      · refine ⟨fun h9 => absurd h9 (by decide), fun _ => ?_⟩
        refine hcl _ _ _ _ (w_X8_refuse 0 (by decide) (by decide) ?_)
        refine hK _ _ ?_
        clear hcl hax
        clear cl ax
        refine mCall_k (fun K hK => ?_)
        refine mCall_sem MX9_lay rfl rfl (Or.inl ⟨rfl, rfl, rfl⟩) rfl (mSem_wp MX9_lay rfl aX9_lay 300 [] (fun cl ax hcl hax => ?_))
        refine hcl _ _ _ _ (w_X9_isHouse (n := nI k) hm.2.2.1 (fun _ _ => ?_) (fun c0 => absurd (And.intro a1 a2) c0))
        refine ⟨fun h9 => absurd h9 (by decide), fun _ => ?_⟩
        refine hcl _ _ _ _ (w_X9_isLane (fun _ _ => ?_) (fun c0 => absurd (And.intro d1 d2) c0))
        refine ⟨fun h9 => absurd h9 (by decide), fun _ => ?_⟩
        refine hcl _ _ _ _ (w_X9 (fun c1 c2 => absurd (And.intro c1 c2) b0) (fun _ => ?_))
        refine ⟨fun h9 => absurd h9 (by decide), fun _ => ?_⟩
        exact hcl _ _ _ _ (w_X9_finding 0 (by decide) (by decide) (hK _ _ (rEnd_cnt h (by decide))))
    · refine ⟨fun _ => ?_, fun h9 => absurd h9 (by decide)⟩
      refine hcl _ _ _ _ (w_X8_refuse 0 (by decide) (by decide) ?_)
      refine hK _ _ ?_
      clear hcl hax
      clear cl ax
      refine mCall_k (fun K hK => ?_)
      refine mCall_sem MX9_lay rfl rfl (Or.inl ⟨rfl, rfl, rfl⟩) rfl (mSem_wp MX9_lay rfl aX9_lay 300 [] (fun cl ax hcl hax => ?_))
      refine hcl _ _ _ _ (w_X9_isHouse (n := nI k) hm.2.2.1 (fun _ _ => ?_) (fun c0 => absurd (And.intro a1 a2) c0))
      refine ⟨fun h9 => absurd h9 (by decide), fun _ => ?_⟩
      refine hcl _ _ _ _ (w_X9_isLane (fun c1 c2 => absurd (And.intro c1 c2) d0) (fun _ => ?_))
      refine ⟨fun _ => ?_, fun h9 => absurd h9 (by decide)⟩
      exact hcl _ _ _ _ (w_X9_finding 0 (by decide) (by decide) (hK _ _ (rEnd_cnt h (by decide))))
  · refine ⟨fun _ => ?_, fun h9 => absurd h9 (by decide)⟩
    refine hcl _ _ _ _ (w_X8_refuse 0 (by decide) (by decide) ?_)
    refine hK _ _ ?_
    clear hcl hax
    clear cl ax
    refine mCall_k (fun K hK => ?_)
    refine mCall_sem MX9_lay rfl rfl (Or.inl ⟨rfl, rfl, rfl⟩) rfl (mSem_wp MX9_lay rfl aX9_lay 300 [] (fun cl ax hcl hax => ?_))
    refine hcl _ _ _ _ (w_X9_isHouse (n := nI k) hm.2.2.1 (fun c1 c2 => absurd (And.intro c1 c2) a0) (fun _ => ?_))
    refine ⟨fun _ => ?_, fun h9 => absurd h9 (by decide)⟩
    exact hcl _ _ _ _ (w_X9_finding 0 (by decide) (by decide) (hK _ _ (rEnd_cnt h (by decide))))
