/-! THE MINI MACHINE AND THE MACHINE, 6: contracts, calls, ends -/
def mPc (E : ME) (D : va_G) (c5 : Nat → ClassId) (adr : Nat → Nat) (vF : Value) (base : Nat) (as : List Value) (h : MH) : Array Value → State → Prop := va_Pc (as.map (mlf adr vF)) (fun U => mRel D c5 adr base h U.heap ∧ va_K D mCl (mTys c5) U ∧ mSf E adr vF (fun q => base ≤ q) U U.heap ∧ ∀ j, j ≤ 999 → adr j = base + j)
def mQc (D : va_G) (c5 : Nat → ClassId) (adr : Nat → Nat) (vF : Value) (base : Nat) (h : MH) (mc ms : Nat) (K : MK) : Array Value → State → Outcome → State → Prop := fun _ st oc t => (∃ (r : Option Value) (h' : MH), oc = .returned (r.map (mlf adr vF)) ∧ K r h' ∧ mRel D c5 adr base h' t.heap ∧ h'.1.length = h.1.length + mc ∧ msz h'.1 = msz h.1 + ms) ∧ va_F (fun q => base ≤ q) st t
abbrev mRm (d : Nat) (M : MM) : Room := { frames := d, cells := M.2.2.2.2.1, slots := M.2.2.2.2.2.1, locals := 36 * d }
abbrev mWd (M : MM) : List Cond := Cond.code M.1 M.2.1 M.2.2.1 M.2.2.2.1 :: mG
/-- the contract of method y, called with as in h: it returns, and K holds of the answer and of the heap behind it -/
def mCall (E : ME) (d y : Nat) (as : List Value) (h : MH) (K : MK) : Prop := ∀ (l : Launch) (D : va_G) (c5 : Nat → ClassId) (adr : Nat → Nat) (vF : Value) (base : Nat) (M : MM), mtab[y]? = some M → Met l M.1 (mWd M) (mRm d M) (mPc E D c5 adr vF base as h) (mQc D c5 adr vF base h M.2.2.2.2.1 M.2.2.2.2.2.1 K) M.2.2.2.2.1 M.2.2.2.2.2.1 (fun q => base ≤ q)
/-- the calls of a method that has room d -/
def mCls (E : ME) (d : Nat) : Nat → List Value → MH → MK → Prop := match d with
  | 0 => fun _ _ _ _ => False
  | d + 1 => mCall E d
theorem mPc_blind {E : ME} {D : va_G} {c5 : Nat → ClassId} {adr : Nat → Nat} {vF : Value} {base : Nat} {as : List Value} {h : MH} : FrameBlind (mPc E D c5 adr vF base as h) := by
  intro a U g mk q
  obtain ⟨q0, q1, q2, q3, q4⟩ := q
  exact ⟨q0, q1, va_K.moved (u := U) (U := U.calling g mk a) (Vm.Alike.refl U.vm) q2, q3.same rfl, q4⟩
section CALL
variable {p : Program} {l : Launch} {e : Env} {R : Room} {s : State} {m : MethodId} {args : Array Value} {below : List Frame} {meth : Method} {c : Code} {Q : State → Prop} {E : ME} {D : va_G} {c5 : Nat → ClassId} {adr : Nat → Nat} {vF : Value} {base d : Nat} {M : MM} {h0 : MH} {pc : Nat} {L : ML} {S : List Value} {h : MH}
theorem mPc_now {as : List Value} {ls : Array Slot} {H : Heap} {locs : List Loc} {cells slots : Nat} (C : mCtx E D c5 adr vF base d M R p s m args meth c) (hI : mInv D c5 adr vF base h0 R M.2.2.1 s ls H locs cells slots L h) : ∀ U : State, U.heap = H → s.WarmedH U.vm → mPc E D c5 adr vF base as h (as.map (mlf adr vF)).toArray U := fun U hU hW => by
  refine ⟨rfl, by rw [hU]; exact hI.2.1, va_K.moved hW.alike C.2.1, ?_, C.2.2.2.2.2.2.2⟩
  rw [hU]
  exact (C.2.2.2.1.kept hI.2.2.1.2.1).warm hW
/-- behind a call -/
theorem sn_behind {mc ms : Nat} {K : MK} {a : Array Value} {st0 : List Value} {ls : Array Slot} {H : Heap} {locs : List Loc} {cells slots : Nat} (hI : mInv D c5 adr vF base h0 R M.2.2.1 s ls H locs cells slots L h) (hf : cells + mc ≤ R.cells ∧ slots + ms ≤ R.slots) (hr : va_Run p l e R s m args below meth c H locs cells slots mc ms (F0 m pc ls st0) (S.map (mlf adr vF)) (mQc D c5 adr vF base h mc ms K a) (fun q => base ≤ q)) (k : ∀ r h', K r h' → mAt p l e R s m args below meth c Q D c5 adr vF base M h0 (pc + 3) L (r.toList ++ S) h') : W p l e R s m args below meth c H locs cells slots Q (F0 m pc ls st0) := by
  intro T hT X
  obtain ⟨v, st₀, t, T', L9, q0, X', hL, e1, e2, ⟨⟨r, h', hv, hK, hR, hl, hz⟩, hz9, hk⟩, st⟩ := hr T hT X
  have hv : v = r.map (mlf adr vF) := by
    cases hv
    rfl
  rw [q0] at hz9 hk
  obtain ⟨i1, i2, i3, i4, i5, i6, i7, i8⟩ := hI
  have hS1 : va_S (fun q => base ≤ q) s.heap T'.heap (locs ++ L9) := ⟨Nat.le_trans i3.1 (by rw [e1]; exact hz9), fun q q1 q2 => by rw [e1, hk q (Nat.lt_of_lt_of_le q1 i3.1) q2]; exact i3.2.1 q q1 q2, fun q hq => by
    rcases List.mem_append.mp hq with q1 | q1
    · exact i3.2.2 q q1
    · exact hL q q1⟩
  have hk9 := k r h' hK ls T'.heap (locs ++ L9) (cells + mc) (slots + ms) ⟨i1, by rw [e1]; exact hR, hS1, by omega, by omega, hf.1, hf.2, i8⟩
  have e9 : (r.toList ++ S).map (mlf adr vF) = v.toList ++ S.map (mlf adr vF) := by
    rw [hv]
    cases r <;> simp
  rw [e9] at hk9
  obtain ⟨t2, a1, b1⟩ := hk9 T' rfl X'
  exact ⟨t2, st t2 a1, b1⟩
theorem sn_callV {idx z q ci a : Nat} {as : List Value} {K : MK} {M' : MM} (C : mCtx E D c5 adr vF base d M R p s m args meth c) (hd : decode M.2.1 pc = .ok (.invokevirtual idx, 3)) (hz : mtab[z]? = some M') (hal : M'.2.2.2.2.1 = 0 ∧ M'.2.2.2.2.2.1 = 0) (hml : M'.2.2.1 ≤ 17) (hq : as.length = q)
    (w1 : Cond.methodLink M.1.cls idx M'.1 ∈ mG) (w2 : Cond.instanceMethod M'.1 ∈ mG) (w3 : Cond.selects M'.1.cls M'.1 M'.1 ∈ mG) (w4 : Cond.initialized M'.1.cls ∈ mG) (w5 : Cond.code M'.1 M'.2.1 M'.2.2.1 M'.2.2.2.1 ∈ mG) (hds : M'.1.cls ≠ "java/lang/invoke/MethodHandle" ∧ M'.1.cls ≠ "java/lang/invoke/VarHandle" ∧ (parseMethodDescriptor M'.1.desc).map (fun d => d.parameters.length) = some q)
    (hcl : (ci ≤ 9 ∧ M'.1.cls = mR ci) ∨ (ci = 20 ∧ M'.1.cls = "java/lang/String")) (hrc : mrcv h.1 a ci = true) (hS8 : mcs S ≤ 8) (hc : mCls E d z (.ref a :: as) h K) (k : ∀ r h', K r h' → mAt p l e R s m args below meth c Q D c5 adr vF base M h0 (pc + 3) L (r.toList ++ S) h') : mAt p l e R s m args below meth c Q D c5 adr vF base M h0 pc L (as.reverse ++ .ref a :: S) h := fun ls H locs cells slots hI => by
  cases d with
  | zero => exact hc.elim
  | succ d =>
  have hM := hc l D c5 adr vF base M' hz
  obtain ⟨al1, al2⟩ := hal
  have hrecv : ∃ b, mad adr vF a = .ref b ∧ ∃ cellB : Cell, H[b]? = some cellB ∧ cellB.vm.isStatics = false ∧ s.vm.findClass M'.1.cls = some cellB.cls := by
    unfold mrcv at hrc
    cases h9 : Nat.ble a 999 with
    | true =>
      rw [h9] at hrc
      refine ⟨base + a, mlow h9 C, ?_⟩
      cases hq9 : h.1[a]? with
      | none => simp [hq9] at hrc
      | some q9 =>
        simp only [hq9, cond_true] at hrc
        obtain ⟨r1, r2⟩ := bnd hrc
        have r1 := Nat.eq_of_beq_eq_true r1
        have r2 := Nat.le_of_ble_eq_true r2
        rcases hcl with ⟨-, hcl⟩ | ⟨hcl, -⟩
        · obtain ⟨q1, q2, q3⟩ := q9
          dsimp only at r1
          subst r1
          rw [hcl]
          exact va_recv C.2.1 hI.2.1.2 (mCl_get ci r2) (mobj_get hq9)
        · omega
    | false =>
      rw [h9] at hrc
      simp only [cond_false] at hrc
      obtain ⟨r1, r2⟩ := bnd hrc
      obtain ⟨r2, r3⟩ := bnd r2
      have r1 := Nat.eq_of_beq_eq_true r1
      have r2 := Nat.le_of_ble_eq_true r2
      have r3 := Nat.le_of_ble_eq_true r3
      obtain ⟨i, hi, rfl⟩ : ∃ i, i < 30 ∧ a = 1010 + i := ⟨a - 1010, by omega, by omega⟩
      obtain ⟨f1, -⟩ := C.2.2.2.1.2.2.2 i hi
      obtain ⟨cell, g1, g2, g3, -⟩ := f1.kept hI.2.2.1.2.1
      rcases hcl with ⟨hcl, -⟩ | ⟨-, hcl⟩
      · omega
      · exact ⟨_, mad_ref (nbq (by omega)), cell, g1, g2, by rw [hcl]; exact g3⟩
  obtain ⟨b, hb9, hcell⟩ := hrecv
  have hG : GoodIn mG (wsV M.1.cls idx M'.1.cls M'.1 (mWd M')) := mG_in (fun w hw => by
    rcases List.mem_append.mp hw with hw | hw
    · simp only [List.mem_cons, List.not_mem_nil, or_false] at hw
      rcases hw with rfl | rfl | rfl | rfl <;> assumption
    · rcases List.mem_cons.mp hw with rfl | hw
      · exact w5
      · exact hw)
  have hst : (as.reverse ++ .ref a :: S).map (mlf adr vF) = (as.map (mlf adr vF)).reverse ++ .ref b :: S.map (mlf adr vF) := by
    simp only [List.map_append, List.map_reverse, List.map_cons]
    congr 2
  have hfr := C.2.2.2.2.2.1
  have hlo := C.2.2.2.2.2.2.1
  have hi6 := hI.2.2.2.2.2.1
  have hi7 := hI.2.2.2.2.2.2.1
  have hfit : cells + M'.2.2.2.2.1 ≤ R.cells ∧ slots + M'.2.2.2.2.2.1 ≤ R.slots := by rw [al1, al2]; exact ⟨hi6, hi7⟩
  refine sn_behind (a := (Value.ref b :: as.map (mlf adr vF)).toArray) (K := K) hI hfit ?_ k
  refine va_runV (As := as.map (mlf adr vF)) (b := b) (rest := S.map (mlf adr vF)) C.1 hM (cwV q C.1.2.2.2.2 hG rfl rfl rfl ⟨rfl, hds⟩ ⟨hfr, by dsimp only [mRm]; omega⟩) ⟨mPc_blind, hcell, ?_⟩ rfl (by simpa using hq) hI.1.size hst (lv_room (by rw [mcs_eq C.2.2.2.1.2.1]; exact hS8)) hd hfit
  have hP := mPc_now (as := .ref a :: as) C hI
  intro U hU hW
  have := hP U hU hW
  rw [List.map_cons, show mlf adr vF (.ref a) = .ref b from hb9] at this
  exact this
theorem sn_callS {idx z q : Nat} {as : List Value} {K : MK} {M' : MM} (C : mCtx E D c5 adr vF base d M R p s m args meth c) (hd : decode M.2.1 pc = .ok (.invokestatic idx, 3)) (hz : mtab[z]? = some M') (hal : M'.2.2.2.2.1 = 0 ∧ M'.2.2.2.2.2.1 = 0) (hml : M'.2.2.1 ≤ 17) (hq : as.length = q)
    (w1 : Cond.methodLink M.1.cls idx M'.1 ∈ mG ∨ (M.1.cls = RX6 ∧ idx = 113 ∧ M'.1 = yX8_within)) (w2 : Cond.static M'.1 ∈ mG) (w4 : Cond.initialized M'.1.cls ∈ mG) (w5 : Cond.code M'.1 M'.2.1 M'.2.2.1 M'.2.2.2.1 ∈ mG) (hds : M'.1.cls ≠ "java/lang/invoke/MethodHandle" ∧ M'.1.cls ≠ "java/lang/invoke/VarHandle" ∧ (parseMethodDescriptor M'.1.desc).map (fun d => d.parameters.length) = some q)
    (hS8 : mcs S ≤ 8) (hc : mCls E d z as h K) (k : ∀ r h', K r h' → mAt p l e R s m args below meth c Q D c5 adr vF base M h0 (pc + 3) L (r.toList ++ S) h') : mAt p l e R s m args below meth c Q D c5 adr vF base M h0 pc L (as.reverse ++ S) h := fun ls H locs cells slots hI => by
  cases d with
  | zero => exact hc.elim
  | succ d =>
  have hM := hc l D c5 adr vF base M' hz
  obtain ⟨al1, al2⟩ := hal
  have hst : (as.reverse ++ S).map (mlf adr vF) = (as.map (mlf adr vF)).reverse ++ S.map (mlf adr vF) := by
    simp only [List.map_append, List.map_reverse]
  have hfr := C.2.2.2.2.2.1
  have hlo := C.2.2.2.2.2.2.1
  have hi6 := hI.2.2.2.2.2.1
  have hi7 := hI.2.2.2.2.2.2.1
  have hfit : cells + M'.2.2.2.2.1 ≤ R.cells ∧ slots + M'.2.2.2.2.2.1 ≤ R.slots := by rw [al1, al2]; exact ⟨hi6, hi7⟩
  have hPre : PreS s H (mPc E D c5 adr vF base as h) (as.map (mlf adr vF)) := ⟨mPc_blind, mPc_now (as := as) C hI⟩
  refine sn_behind (a := (as.map (mlf adr vF)).toArray) (K := K) hI hfit ?_ k
  rcases w1 with w1 | ⟨n1, n2, n3⟩
  · have hG : GoodIn mG (va_wsS M.1.cls idx M'.1 (mWd M')) := mG_in (fun w hw => by
      rcases List.mem_append.mp hw with hw | hw
      · simp only [List.mem_cons, List.not_mem_nil, or_false] at hw
        rcases hw with rfl | rfl | rfl <;> assumption
      · rcases List.mem_cons.mp hw with rfl | hw
        · exact w5
        · exact hw)
    exact va_runS (As := as.map (mlf adr vF)) (rest := S.map (mlf adr vF)) C.1 hM (va_cwS q C.1.2.2.2.2 hG rfl rfl rfl hds ⟨hfr, by dsimp only [mRm]; omega⟩) hPre rfl (by simpa using hq) hI.1.size hst (lv_room (by rw [mcs_eq C.2.2.2.1.2.1]; exact hS8)) hd hfit
  · have hG : GoodIn mG (mWd M') := mG_in (fun w hw => by
      rcases List.mem_cons.mp hw with rfl | hw
      · exact w5
      · exact hw)
    have hN : va_Nw (.methodLinkNest M.1.cls idx M'.1 "GlacierStreets") s := by
      rw [n1, n2, n3]
      exact C.2.2.2.1.2.2.1.1
    exact va_runSN (As := as.map (mlf adr vF)) (rest := S.map (mlf adr vF)) C.1 hM ⟨va_cnB q C.1.2.2.2.2 hG rfl rfl rfl hN (C.1.2.2.2.2 _ w4) hds ⟨hfr, by dsimp only [mRm]; omega⟩, C.1.2.2.2.2 _ w2, trivial⟩ hPre rfl (by simpa using hq) hI.1.size hst (lv_room (by rw [mcs_eq C.2.2.2.1.2.1]; exact hS8)) hd hfit
theorem sn_callI {idx z q a : Nat} {as : List Value} {K : MK} {M' : MM} (C : mCtx E D c5 adr vF base d M R p s m args meth c) (hd : decode M.2.1 pc = .ok (.invokespecial idx, 3)) (hz : mtab[z]? = some M') (hml : M'.2.2.1 ≤ 17) (hq : as.length = q) (hrn : M'.2.2.2.1 = none) (hnm : M'.1.name = "<init>")
    (w1 : Cond.methodLink M.1.cls idx M'.1 ∈ mG) (w2 : Cond.instanceMethod M'.1 ∈ mG) (w4 : Cond.initialized M'.1.cls ∈ mG) (w5 : Cond.code M'.1 M'.2.1 M'.2.2.1 M'.2.2.2.1 ∈ mG) (hds : M'.1.cls ≠ "java/lang/invoke/MethodHandle" ∧ M'.1.cls ≠ "java/lang/invoke/VarHandle" ∧ (parseMethodDescriptor M'.1.desc).map (fun d => d.parameters.length) = some q)
    (ha9 : Nat.ble a 999 = true) (hS8 : mcs S ≤ 8) (hf1 : h.1.length + M'.2.2.2.2.1 ≤ h0.1.length + R.cells) (hf2 : msz h.1 + M'.2.2.2.2.2.1 ≤ msz h0.1 + R.slots) (hc : mCls E d z (.ref a :: as) h K) (k : ∀ r h', K r h' → mAt p l e R s m args below meth c Q D c5 adr vF base M h0 (pc + 3) L (r.toList ++ S) h') : mAt p l e R s m args below meth c Q D c5 adr vF base M h0 pc L (as.reverse ++ .ref a :: S) h := fun ls H locs cells slots hI => by
  cases d with
  | zero => exact hc.elim
  | succ d =>
  have hM := hc l D c5 adr vF base M' hz
  have hst : (as.reverse ++ .ref a :: S).map (mlf adr vF) = (as.map (mlf adr vF)).reverse ++ .ref (base + a) :: S.map (mlf adr vF) := by
    simp only [List.map_append, List.map_reverse, List.map_cons]
    congr 2
    exact mlow ha9 C
  have hfr := C.2.2.2.2.2.1
  have hlo := C.2.2.2.2.2.2.1
  have i4 := hI.2.2.2.1
  have i5 := hI.2.2.2.2.1
  have hfit : cells + M'.2.2.2.2.1 ≤ R.cells ∧ slots + M'.2.2.2.2.2.1 ≤ R.slots := ⟨by omega, by omega⟩
  have hG : GoodIn mG (mWd M') := mG_in (fun w hw => by
    rcases List.mem_cons.mp hw with rfl | hw
    · exact w5
    · exact hw)
  refine sn_behind (a := (Value.ref (base + a) :: as.map (mlf adr vF)).toArray) (K := K) hI hfit ?_ k
  refine va_runI (bytes := M'.2.1) (maxL := M'.2.2.1) (As := as.map (mlf adr vF)) (b := base + a) (rest := S.map (mlf adr vF)) C.1 hM ⟨callB_of q C.1.2.2.2.2 hG (by rw [mWd, hrn]) rfl rfl (C.1.2.2.2.2 _ w4) (C.1.2.2.2.2 _ w1) hds ⟨hfr, by dsimp only [mRm]; omega⟩, hnm, C.1.2.2.2.2 _ w2⟩ ⟨mPc_blind, ?_⟩ rfl (by simpa using hq) hI.1.size hst (lv_room (by rw [mcs_eq C.2.2.2.1.2.1]; exact hS8)) hd hfit
  have hP := mPc_now (as := .ref a :: as) C hI
  intro U hU hW
  have := hP U hU hW
  rw [List.map_cons, show mlf adr vF (.ref a) = .ref (base + a) from mlow ha9 C] at this
  exact this
end CALL
