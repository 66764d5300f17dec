/-! THE LAW -/
theorem la_in {L j c : Nat} (hL : L ≤ 384) (h : 6 * j + c < L) : vp_in (nI (6 * j) + nI c) L := by
  rw [nI_add]
  exact vp_in_nI h (by omega)
set_option maxRecDepth 1000000 in
theorem la_loop {E : ME} (hL : E.1 ≤ 384) : ∀ (b j : Nat) (A : Nat → Nat → Int32) (B : Nat → Nat → Int64), E.1 + 6 - 6 * j < b → 6 * j ≤ E.1 + 6 → rAll A B → LS7 E 18 (LL (nI (6 * j))) (SH, A, B) := by
  intro b
  induction b with
  | zero => intro j A B h; omega
  | succ b ih =>
    intro j A B hb hj h
    refine mSem_wp ML_law rfl aL_law 300 [224, 247, 280, 303, 336, 369, 392, 435, 468, 501, 534, 567, 600, 623, 646, 679, 702, 725, 768, 791, 824, 857, 880, 923, 956, 989, 1012, 1055, 1108, 1141, 1174, 1207, 1220, 1233, 1276, 1350, 1413, 1436, 1469, 1502, 1515, 1528, 1541, 1564, 1587] (fun cl ax hcl hax => ?_)
    refine ⟨fun _ => ?_, fun (c : ¬ nI E.1 - 6 < nI (6 * j)) => ?_⟩
    · exact ⟨rfl, rfl⟩
    · have hin : 6 * j + 6 ≤ E.1 := by
        rcases Nat.lt_or_ge E.1 (6 * j + 6) with q | q
        · exfalso
          have a1 : nI E.1 < nI (6 * j + 6) := (nI_ltI (by omega) (by omega)).mpr q
          have a2 : nI (6 * j + 6) = nI (6 * j) + 6 := (nI_add (6 * j) 6).symm
          have a3 : 0 ≤ nI E.1 := nI_pos' (by omega)
          have a4 : nI E.1 ≤ nI 384 := nI_le hL (by decide)
          have a4 : nI E.1 ≤ 384 := a4
          have a5 : 0 ≤ nI (6 * j) := nI_pos' (by omega)
          have a6 : nI (6 * j) ≤ nI 390 := nI_le (by omega) (by decide)
          have a6 : nI (6 * j) ≤ 390 := a6
          rw [a2] at a1
          generalize nI E.1 = p at a1 a3 a4 c
          generalize nI (6 * j) = q at a1 a5 a6 c
          clear hcl hax ih h hb hj hL
          grind
        · exact q
      have v0 : vp_in (nI (6 * j)) E.1 := vp_in_nI (by omega) (by omega)
      have v1 : vp_in (nI (6 * j) + 1) E.1 := la_in hL (c := 1) (by omega)
      have v2 : vp_in (nI (6 * j) + 2) E.1 := la_in hL (c := 2) (by omega)
      have v3 : vp_in (nI (6 * j) + 3) E.1 := la_in hL (c := 3) (by omega)
      have v4 : vp_in (nI (6 * j) + 4) E.1 := la_in hL (c := 4) (by omega)
      have v5 : vp_in (nI (6 * j) + 5) E.1 := la_in hL (c := 5) (by omega)
      have nx : ∀ A' B', rAll A' B' → LS7 E 1587 (LL (nI (6 * j))) (SH, A', B') := fun A' B' h' => by
        have this := ih (j + 1) A' B' (by omega) (by omega) h'
        rw [show nI (6 * (j + 1)) = nI (6 * j) + 6 from (nI_add (6 * j) 6).symm] at this
        refine mSem_wp ML_law rfl aL_law 300 [18] (fun cl ax hcl hax => ?_)
        exact hax _ _ _ _ this
      refine ⟨v0, ?_⟩
      refine ⟨fun _ => hax _ _ _ _ (la_edge h v1 v2 v3 v4 v5 nx), fun _ => ?_⟩
      refine ⟨fun _ => hax _ _ _ _ (la_pace h v1 v2 v3 v4 v5 nx), fun _ => ?_⟩
      refine ⟨fun _ => hax _ _ _ _ (la_warm h v1 v2 v3 v4 v5 nx), fun _ => ?_⟩
      refine ⟨fun _ => hax _ _ _ _ (la_goes h v1 v2 v3 v4 v5 nx), fun _ => ?_⟩
      refine ⟨fun _ => hax _ _ _ _ (la_strain h v1 v2 v3 v4 v5 nx), fun _ => ?_⟩
      refine ⟨fun _ => hax _ _ _ _ (la_crack h v1 v2 v3 v4 v5 nx), fun _ => ?_⟩
      refine ⟨fun _ => hax _ _ _ _ (la_house h v1 v2 v3 v4 v5 nx), fun _ => ?_⟩
      refine ⟨fun _ => hax _ _ _ _ (la_of h v1 v2 v3 v4 v5 nx), fun _ => ?_⟩
      refine ⟨fun _ => hax _ _ _ _ (la_hold h v1 v2 v3 v4 v5 nx), fun _ => ?_⟩
      refine ⟨fun _ => hax _ _ _ _ (la_as h v1 v2 v3 v4 v5 nx), fun _ => ?_⟩
      refine ⟨fun _ => hax _ _ _ _ (la_turn h v1 v2 v3 v4 v5 nx), fun _ => ?_⟩
      refine ⟨fun _ => hax _ _ _ _ (la_haul h v1 v2 v3 v4 v5 nx), fun _ => ?_⟩
      refine ⟨fun _ => hax _ _ _ _ (la_years h v1 v2 v3 v4 v5 nx), fun _ => ?_⟩
      refine ⟨fun _ => hax _ _ _ _ (la_now h v1 v2 v3 v4 v5 nx), fun _ => ?_⟩
      refine ⟨fun _ => hax _ _ _ _ (la_ahead h v1 v2 v3 v4 v5 nx), fun _ => ?_⟩
      refine ⟨fun _ => hax _ _ _ _ (la_over h v1 v2 v3 v4 v5 nx), fun _ => ?_⟩
      refine ⟨fun _ => hax _ _ _ _ (la_cost h v1 v2 v3 v4 v5 nx), fun _ => ?_⟩
      refine ⟨fun _ => hax _ _ _ _ (la_safe h v1 v2 v3 v4 v5 nx), fun _ => ?_⟩
      refine ⟨fun _ => hax _ _ _ _ (la_beside h v1 v2 v3 v4 v5 nx), fun _ => ?_⟩
      refine ⟨fun _ => hax _ _ _ _ (la_till h v1 v2 v3 v4 v5 nx), fun _ => ?_⟩
      refine ⟨fun _ => hax _ _ _ _ (la_straight h v1 v2 v3 v4 v5 nx), fun _ => ?_⟩
      refine ⟨fun _ => hax _ _ _ _ (la_when h v1 v2 v3 v4 v5 nx), fun _ => ?_⟩
      refine ⟨fun _ => hax _ _ _ _ (la_lay h v1 v2 v3 v4 v5 nx), fun _ => ?_⟩
      refine ⟨fun _ => hax _ _ _ _ (la_deed h v1 v2 v3 v4 v5 nx), fun _ => ?_⟩
      refine ⟨fun _ => hax _ _ _ _ (la_deedOf h v1 v2 v3 v4 v5 nx), fun _ => ?_⟩
      refine ⟨fun _ => hax _ _ _ _ (la_whose h v1 v2 v3 v4 v5 nx), fun _ => ?_⟩
      refine ⟨fun _ => hax _ _ _ _ (la_meet h v1 v2 v3 v4 v5 nx), fun _ => ?_⟩
      refine ⟨fun _ => hax _ _ _ _ (la_stake h v1 v2 v3 v4 v5 nx), fun _ => ?_⟩
      refine ⟨fun _ => hax _ _ _ _ (la_learnt h v1 v2 v3 v4 v5 nx), fun _ => ?_⟩
      refine ⟨fun _ => hax _ _ _ _ (la_lost h v1 v2 v3 v4 v5 nx), fun _ => ?_⟩
      refine ⟨fun _ => hax _ _ _ _ (la_feed h v1 v2 v3 v4 v5 nx), fun _ => ?_⟩
      refine ⟨fun _ => hax _ _ _ _ (la_wipe h v1 v2 v3 v4 v5 nx), fun _ => ?_⟩
      refine ⟨fun _ => hax _ _ _ _ (la_town h v1 v2 v3 v4 v5 nx), fun _ => ?_⟩
      refine ⟨fun _ => hax _ _ _ _ (la_sheet h v1 v2 v3 v4 v5 nx), fun _ => ?_⟩
      refine ⟨fun _ => hax _ _ _ _ (la_write h v1 v2 v3 v4 v5 nx), fun _ => ?_⟩
      refine ⟨fun _ => hax _ _ _ _ (la_copy h v1 v2 v3 v4 v5 nx), fun _ => ?_⟩
      refine ⟨fun _ => hax _ _ _ _ (la_lays h v1 v2 v3 v4 v5 nx), fun _ => ?_⟩
      refine ⟨fun _ => hax _ _ _ _ (la_map h v1 v2 v3 v4 v5 nx), fun _ => ?_⟩
      refine ⟨fun _ => hax _ _ _ _ (la_read h v1 v2 v3 v4 v5 nx), fun _ => ?_⟩
      refine ⟨fun _ => hax _ _ _ _ (la_image h v1 v2 v3 v4 v5 nx), fun _ => ?_⟩
      refine ⟨fun _ => hax _ _ _ _ (la_undo h v1 v2 v3 v4 v5 nx), fun _ => ?_⟩
      refine ⟨fun _ => hax _ _ _ _ (la_tear h v1 v2 v3 v4 v5 nx), fun _ => ?_⟩
      refine ⟨fun _ => hax _ _ _ _ (la_count h v1 v2 v3 v4 v5 nx), fun _ => ?_⟩
      refine ⟨fun _ => hax _ _ _ _ (la_status h v1 v2 v3 v4 v5 nx), fun _ => ?_⟩
      exact hax _ _ _ _ (nx A B h)
theorem mif_t {b : Bool} {P : Prop} (h : b = true) (p : P) : mif b P := by
  subst h
  exact p
theorem l_new {E : ME} {cl : Nat → List Value → MH → MK → Prop} {ax : Nat → MN} {L : ML} {h : MH} (hc : (Nat.ble 9 9 && (Nat.ble (h.1.length + 1) 999 && (Nat.ble (h.1.length + 1) 600000 && Nat.ble (msz h.1 + mN 9) 7302250))) = true) (hh : ax 11 L [.ref h.1.length] (mnewA h 14 23 (List.replicate 23 none))) : mwp E 13 (600000, 7302250) (some .boolean) false cl ax [11] kL_law mYes 300 (mdrop 8 kL_law) L [] h := by
  refine mif_t hc ?_
  exact hh
theorem l_inv {E : ME} {cl : Nat → List Value → MH → MK → Prop} {ax : Nat → MN} (hcl : ∀ z as h K, mCls E 13 z as h K → cl z as h K) {L : ML} {h h2 : MH} (hc : (mrcv h.1 74 9 && (Nat.ble 1 8 && (Nat.ble (h.1.length + 11) 600000 && Nat.ble (msz h.1 + 1347) 7302250))) = true) (hm : ∀ K : MK, K none h2 → mCall E 12 nX9_init [.ref 74] h K) (hh : ax 15 L [.ref 74] h2) : mwp E 13 (600000, 7302250) (some .boolean) false cl ax [15] kL_law mYes 300 (mdrop 12 kL_law) L [.ref 74, .ref 74] h := by
  refine mif_t hc ?_
  exact hcl _ _ _ _ (hm _ hh)
set_option maxRecDepth 1000000 in
theorem law_15 (E : ME) (hL : E.1 ≤ 384) : LS7 E 18 [some (.ref 1000), some (.ref 0), some (.ref 74), some (.int 0)] (SH, Az356, Bz346) := la_loop hL (E.1 + 7) 0 Az356 Bz346 (by omega) (by omega) start_all
set_option maxRecDepth 1000000 in
theorem law_12 (E : ME) (hL : E.1 ≤ 384) : mSem E 13 nL_law mH0 600000 7302250 mYes 12 [some (.ref 1000), some (.ref 0), none, none] [.ref 74, .ref 74] (Tz307, Az305, Bz306) := by
  refine mSem_wp ML_law rfl aL_law 300 [15] (fun cl ax hcl hax => ?_)
  refine l_inv (h := (Tz307, Az305, Bz306)) (h2 := (SH, Az356, Bz346)) hcl (by decide +kernel) (fun K hK => i_X9_74 (d := 11) hK) ?_
  refine hax _ _ _ _ ?_
  refine mSem_wp ML_law rfl aL_law 300 [18] (fun cl ax hcl hax => ?_)
  exact hax _ _ _ _ (law_15 E hL)
set_option maxRecDepth 1000000 in
theorem law_8 (E : ME) (hL : E.1 ≤ 384) : mSem E 13 nL_law mH0 600000 7302250 mYes 8 [some (.ref 1000), some (.ref 0), none, none] [] (Tz303, Az304, Bz302) := by
  refine mSem_wp ML_law rfl aL_law 300 [11] (fun cl ax hcl hax => ?_)
  refine l_new (h := (Tz303, Az304, Bz302)) (by decide +kernel) ?_
  refine hax _ _ _ _ (show mSem E 13 nL_law mH0 600000 7302250 mYes 11 [some (.ref 1000), some (.ref 0), none, none] [.ref 74] (Tz307, Az305, Bz306) from ?_)
  refine mSem_wp ML_law rfl aL_law 300 [12] (fun cl ax hcl hax => ?_)
  exact hax _ _ _ _ (law_12 E hL)
set_option maxRecDepth 1000000 in
theorem law_ok (E : ME) (hL : E.1 ≤ 384) : mSem E 13 nL_law mH0 600000 7302250 mYes 0 [some (.ref 1000), none, none, none] [] mH0 := by
  refine mSem_wp ML_law rfl aL_law 300 [8] (fun cl ax hcl hax => ?_)
  refine hcl _ _ _ _ (i_X8_0 (d := 8) ?_)
  exact hax _ _ _ _ (law_8 E hL)
