/-! FROM THE LAW'S ENTRY TO THE MINI MACHINE -/
def mTm (i : Nat) : Term := .string (mSt i).1 (mSt i).2.1
abbrev mGv : Cond := Jvm.Cond.and given_1 narrow_1
set_option maxRecDepth 100000 in
theorem mg_ex : ∀ i, i < 30 → Cond.exactly (mTm i) "java/lang/String" ∈ flatC mGv := by decide +kernel
set_option maxRecDepth 100000 in
theorem mg_co : ∀ i, i < 30 → Cond.eq (.field (mTm i) "java/lang/String" "coder" "B") (.int 0) ∈ flatC mGv := by decide +kernel
set_option maxRecDepth 100000 in
theorem mg_ar : ∀ i, i < 30 → Cond.arrayOf (.field (mTm i) "java/lang/String" "value" "[B") .byte ∈ flatC mGv := by decide +kernel
set_option maxRecDepth 100000 in
theorem mg_le : ∀ i, i < 30 → Cond.eq (.length (.field (mTm i) "java/lang/String" "value" "[B")) (.int (Int32.ofNat (mBy i).length)) ∈ flatC mGv := by decide +kernel
set_option maxRecDepth 100000 in
theorem mg_el : ∀ i, i < 30 → ∀ j, j < (mBy i).length → Cond.eq (.elem (.field (mTm i) "java/lang/String" "value" "[B") (.int (Int32.ofNat j))) (.int ((mBy i).getD j 0)) ∈ flatC mGv := by decide +kernel
set_option maxRecDepth 100000 in
theorem mg_sr : ∀ i, i < 30 → Cond.stringRef (mSt i).1 (mSt i).2.1 (mSt i).2.2 ∈ lw_tbl := by decide +kernel
set_option maxRecDepth 100000 in
theorem mg_un : ∀ j, j < 6 → Cond.eq (.elem (.static "GlacierStreets" "UNDER" "[I") (.int (Int32.ofNat j))) (.int (mUnder.getD j 0)) ∈ flatC mGv := by decide +kernel
theorem mg_small : ∀ i, i < 30 → (mBy i).length < 2 ^ 31 := by decide +kernel
theorem mStrings {args : Array Value} {s : State} {A : Nat → Prop} (hg : mGv.before args s = true) (hts : ∀ w ∈ lw_tbl, w.before args s = true) (hA : ∀ a : Nat, a < s.heap.size → ¬ A a) : ∃ adK adV : Nat → Nat, ∀ i, i < 30 → va_O "java/lang/String" (adK i) A s s.heap ∧ va_OF "java/lang/String" "coder" "B" (.int 0) (adK i) A s s.heap ∧ va_OF "java/lang/String" "value" "[B" (.ref (adV i)) (adK i) A s s.heap ∧ va_T .byte (adV i) (mBy i).length (fun j => .int ((mBy i).getD j 0)) A s s.heap ∧ vk_R (mSt i).1 (mSt i).2.1 (mSt i).2.2 (adK i) s := by
  have hs := flat_of_before _ hg
  have h0 : ∀ i : Nat, ∃ q : Nat × Nat, i < 30 → va_O "java/lang/String" q.1 A s s.heap ∧ va_OF "java/lang/String" "coder" "B" (.int 0) q.1 A s s.heap ∧ va_OF "java/lang/String" "value" "[B" (.ref q.2) q.1 A s s.heap ∧ va_T .byte q.2 (mBy i).length (fun j => .int ((mBy i).getD j 0)) A s s.heap ∧ vk_R (mSt i).1 (mSt i).2.1 (mSt i).2.2 q.1 s := by
    intro i
    by_cases hi : i < 30
    · obtain ⟨a, c, cA, kA, q1, q2, q3, q4, q5, q6, -⟩ := Cond.exactly_spec (args := args) (first := s) (o := none) (s := s) (idx := []) (t := mTm i) (cls := "java/lang/String") (hs _ (mg_ex i hi))
      obtain ⟨t, ht, hT⟩ := va_Tof (f := fun j => .int ((mBy i).getD j 0)) (A := A) (mg_small i hi) (hs _ (mg_ar i hi)) (va_eqt (hs _ (mg_le i hi))) (fun j hj => va_eqt (hs _ (mg_el i hi j hj))) hA
      exact ⟨(a, t), fun _ => ⟨⟨cA, q3, q5, by rw [q6]; exact q2, hA a (Array.getElem?_eq_some_iff.mp q3).1⟩, vk_OFof q1 (va_eqt (hs _ (mg_co i hi))) hA, vk_OFof q1 ht hA, hT, vk_R.of (hts _ (mg_sr i hi)) q1⟩⟩
    · exact ⟨(0, 0), fun h => absurd h hi⟩
  obtain ⟨ad, had⟩ := Classical.axiomOfChoice h0
  exact ⟨fun i => (ad i).1, fun i => (ad i).2, had⟩
theorem mArr {args : Array Value} {s : State} {ty : FieldType} (h : (Cond.arrayClass ty).before args s = true) : ∃ c, ArrOfT s c ty ∧ s.vm.findClass ("[" ++ ty.toString) = some c := by
  obtain ⟨c, k, comp, h1, h2, h3⟩ := Cond.arrayClass_spec h
  exact ⟨c, fun n z => ⟨fun q e => (by cases e), k, h2, comp, h3⟩, h1⟩
theorem mArO {args : Array Value} {s : State} {C : String} (h : (Cond.arrayOver (.object C)).before args s = true) : ∃ c, ArrOfT s c (.object C) ∧ va_RA s c (.object C) := by
  obtain ⟨comp, c, k, h1, h2, h3, h4, h5⟩ := Cond.arrayOver_spec h
  exact ⟨c, fun n z => ⟨fun q e => (by cases e), k, h3, comp, h4⟩, k, comp, h3, h4, h1, h5⟩
/-- the mini heap at the law's entry: nothing -/
def mH0 : MH := ([], fun _ _ => 0, fun _ _ => 0)
def mYes : MK := fun r _ => r = some (.int 1)
set_option maxRecDepth 100000 in
theorem mw_ac1 : Cond.arrayClass .int ∈ lw_tbl ∧ Cond.arrayClass .boolean ∈ lw_tbl ∧ Cond.arrayClass .long ∈ lw_tbl := by decide +kernel
set_option maxRecDepth 100000 in
theorem mw_ac2 : Cond.arrayOver (.object RX3) ∈ lw_tbl ∧ Cond.arrayOver (.object "java/lang/String") ∈ lw_tbl ∧ Cond.methodLinkNest RX6 113 yX8_within "GlacierStreets" ∈ lw_tbl := by decide +kernel
set_option maxRecDepth 100000 in
theorem mw_st : Cond.laysStatic "GlacierStreets" "UNDER" "[I" ∈ lw_tbl ∧ Cond.initialized "GlacierStreets" ∈ lw_tbl ∧ Cond.laysStatic "java/lang/String" "COMPACT_STRINGS" "Z" ∈ lw_tbl ∧ Cond.initialized "java/lang/String" ∈ lw_tbl ∧ Cond.laysStatic "jdk/internal/util/Preconditions" "SIOOBE_FORMATTER" "Ljava/util/function/BiFunction;" ∈ lw_tbl ∧ Cond.initialized "jdk/internal/util/Preconditions" ∈ lw_tbl := by decide +kernel
set_option maxRecDepth 100000 in
theorem mw_in : ∀ ci, ci ≤ 9 → Cond.instantiable (mR ci) (mN ci) ∈ lw_tbl := by
  intro ci hc
  rcases (show ci = 0 ∨ ci = 1 ∨ ci = 2 ∨ ci = 3 ∨ ci = 4 ∨ ci = 5 ∨ ci = 6 ∨ ci = 7 ∨ ci = 8 ∨ ci = 9 by omega) with rfl | rfl | rfl | rfl | rfl | rfl | rfl | rfl | rfl | rfl <;> decide +kernel
set_option maxRecDepth 100000 in
theorem mg_st : Cond.arrayOf (.static "GlacierStreets" "UNDER" "[I") .int ∈ flatC mGv ∧ Cond.eq (.length (.static "GlacierStreets" "UNDER" "[I")) (.int (Int32.ofNat 6)) ∈ flatC mGv ∧ Cond.eq (.static "java/lang/String" "COMPACT_STRINGS" "Z") (.int 1) ∈ flatC mGv ∧ Cond.isRef (.static "jdk/internal/util/Preconditions" "SIOOBE_FORMATTER" "Ljava/util/function/BiFunction;") ∈ flatC mGv := by decide +kernel
set_option maxHeartbeats 4000000 in
/-- the law, from a proof over the mini machine -/
theorem mStart {p : Program} {e : Env} {s : State} {m : MethodId} {below : List Frame} {meth : Method} {c : Code} (l : Launch) {b L : Nat} {xs : Nat → Int32} (C0 : lw_At p s m meth c b L xs) (hname : meth.name = "law") (hsem : mSem (L, xs) 13 nL_law mH0 600000 7302250 mYes 0 [some (.ref 1000), none, none, none] [] mH0) : W p l e room_1 s m #[Value.ref b] below meth c s.heap [] 0 0 (lw_Z below #[Value.ref b] s) (entryFrame m ([Value.ref b] : List Value).toArray 4) := by
  obtain ⟨hx, hb, hr, hml, hown, hts, hX, hbl, hlocks, hgv⟩ := C0
  have hs := flat_of_before _ hgv
  have hA : ∀ a : Nat, a < s.heap.size → ¬ (fun q : Nat => s.heap.size ≤ q) a := fun a h => Nat.not_le.mpr h
  obtain ⟨adK, adV, hstr⟩ := mStrings (A := fun q : Nat => s.heap.size ≤ q) hgv hts hA
  obtain ⟨tU, hU1, hU2⟩ := va_Tof (f := fun j => .int (mUnder.getD j 0)) (A := fun q : Nat => s.heap.size ≤ q) (N := 6) (by decide) (hs _ mg_st.1) (va_eqt (hs _ mg_st.2.1)) (fun j hj => va_eqt (hs _ (mg_un j hj))) hA
  have hZU := va_Zref (A := fun q : Nat => s.heap.size ≤ q) (hts _ mw_st.1) (hts _ mw_st.2.1) hU1 hA
  have hZC := va_Zof (A := fun q : Nat => s.heap.size ≤ q) (hts _ mw_st.2.2.1) (hts _ mw_st.2.2.2.1) (va_eqi (hs _ mg_st.2.2.1)) hA
  have hZF := va_Zqof (A := fun q : Nat => s.heap.size ≤ q) (hts _ mw_st.2.2.2.2.1) (hts _ mw_st.2.2.2.2.2) (hs _ mg_st.2.2.2) hA
  obtain ⟨vF, hvF, hZF⟩ : ∃ vF : Value, (vF = .null ∨ ∃ t, vF = .ref t) ∧ va_Z "jdk/internal/util/Preconditions" "SIOOBE_FORMATTER" "Ljava/util/function/BiFunction;" vF (fun q : Nat => s.heap.size ≤ q) s s.heap := by
    rcases hZF with h | ⟨t, h⟩
    · exact ⟨_, Or.inl rfl, h⟩
    · exact ⟨_, Or.inr ⟨t, rfl⟩, h⟩
  obtain ⟨a0, ha0, ha0'⟩ := mArr (hts _ mw_ac1.1)
  obtain ⟨a1, ha1, ha1'⟩ := mArr (hts _ mw_ac1.2.1)
  obtain ⟨a2, ha2, ha2'⟩ := mArr (hts _ mw_ac1.2.2)
  obtain ⟨a3, ha3, ha3'⟩ := mArO (hts _ mw_ac2.1)
  obtain ⟨a4, ha4, ha4'⟩ := mArO (hts _ mw_ac2.2.1)
  have hcls : ∀ ci : Nat, ∃ q : ClassId × (Nat → Nat), ci ≤ 9 → u_Kn s (mR ci) (mT ci) (mN ci) q.1 q.2 := by
    intro ci
    by_cases hc : ci ≤ 9
    · obtain ⟨c1, i1, h1⟩ := u_known (C := mR ci) (T := mT ci) (N := mN ci) (n := mN ci) hts (fun w hw => mG_tbl w (mLay_ok ci hc w hw)) (hts _ (mw_in ci hc))
      exact ⟨(c1, i1), fun _ => h1⟩
    · exact ⟨(0, fun _ => 0), fun h => absurd h hc⟩
  obtain ⟨cd, hcd⟩ := Classical.axiomOfChoice hcls
  let D : va_G := (fun k => (cd k).1, fun k => (cd k).2)
  let c5 : Nat → ClassId := fun k => if k = 0 then a0 else if k = 1 then a1 else if k = 2 then a2 else if k = 3 then a3 else a4
  let adr : Nat → Nat := fun j => if j ≤ 999 then s.heap.size + j else if j = 1000 then b else if j = 1001 then tU else if j ≤ 1049 then adK (j - 1010) else adV (j - 1050)
  have hK : va_K D mCl (mTys c5) s := by
    refine ⟨fun k q hq => ?_, fun k q hq => ?_⟩
    · by_cases hk : k ≤ 9
      · rw [mCl_get k hk] at hq
        cases hq
        exact hcd k hk
      · have : mCl.length ≤ k := by
          show 10 ≤ k
          omega
        rw [List.getElem?_eq_none this] at hq
        cases hq
    · match k, hq with
      | 0, hq => cases hq; exact ⟨ha0, ha0'⟩
      | 1, hq => cases hq; exact ⟨ha1, ha1'⟩
      | 2, hq => cases hq; exact ⟨ha2, ha2'⟩
      | 3, hq => cases hq; exact ⟨ha3, ha3'⟩
      | 4, hq => cases hq; exact ⟨ha4, ha4'⟩
      | k + 5, hq => simp [mTys] at hq
  have hT : va_T .int b L (fun j => .int (xs j)) (fun q : Nat => s.heap.size ≤ q) s s.heap := by
    obtain ⟨scr, h1, h2, h3, h4, h5⟩ := hX
    exact ⟨scr, h1, h2, h3, by omega, by rw [h4], h5, hA b hbl⟩
  have e1 : ∀ i, i < 30 → adr (1010 + i) = adK i := by
    intro i hi
    show (if 1010 + i ≤ 999 then _ else _) = _
    rw [if_neg (by omega), if_neg (by omega), if_neg (by omega), if_pos (by omega), Nat.add_sub_cancel_left]
  have e2 : ∀ i, i < 30 → adr (1050 + i) = adV i := by
    intro i hi
    show (if 1050 + i ≤ 999 then _ else _) = _
    rw [if_neg (by omega), if_neg (by omega), if_neg (by omega), if_neg (by omega), Nat.add_sub_cancel_left]
  have hSf : mSf (L, xs) adr vF (fun q => s.heap.size ≤ q) s s.heap := by
    refine ⟨⟨hT, hU2, hZU, hZC, hZF⟩, hvF, ⟨va_Nw.of rfl (hts _ mw_ac2.2.2), va_AO.of (hts _ mw_ac2.1), va_AO.of (hts _ mw_ac2.2.1)⟩, fun i hi => ?_⟩
    rw [e1 i hi, e2 i hi]
    exact hstr i hi
  have C : mCtx (L, xs) D c5 adr vF s.heap.size 13 ML_law room_1 p s m #[Value.ref b] meth c := ⟨⟨hx, hb, hml, hown, fun w hw => hts w (mG_tbl w hw)⟩, hK, hname, hSf, Nat.le_refl _, Nat.le_refl _, by decide, fun j hj => if_pos hj⟩
  have hl := lv_entry ([.ref b]) (n := 4) (Nat.le_of_ble_eq_true rfl)
  rw [lg_entry_eq]
  generalize (lg_sl ([.ref b]) ++ List.replicate (4 - (lg_sl ([.ref b])).length) Slot.unset).toArray = ls at hl ⊢
  have hI : mInv D c5 adr vF s.heap.size mH0 room_1 4 s ls s.heap [] 0 0 [some (.ref 1000), none, none, none] mH0 := ⟨⟨rfl, hl⟩, ⟨⟨rfl, Nat.zero_le _⟩, fun k q h => by simp [mWs, mH0] at h⟩, va_S.rf, rfl, rfl, Nat.zero_le _, Nat.zero_le _, rfl⟩
  refine hsem ML_law rfl p l e room_1 s m _ below meth c _ D c5 adr vF s.heap.size rfl rfl C ?_ ls s.heap [] 0 0 hI
  intro ls H locs cells slots L9 h pc hI
  refine ⟨fun x hd hk => ?_, fun x _ h _ => ?_, fun _ h _ _ => ?_, fun x _ h _ => ?_⟩
  · have hk1 : Value.int x = Value.int 1 := Option.some.inj hk.2
    cases hk1
    refine va_forget (fun q hq => hI.2.2.1.2.2 q hq) ?_
    refine W.widen hI.2.2.2.2.2.1 hI.2.2.2.2.2.2.1 ?_
    exact lw_ret hx hb hr hlocks hd
  · cases h
  · cases h
  · obtain ⟨n, h⟩ := h
    cases h
