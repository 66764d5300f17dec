/-! THE MINI MACHINE AND THE MACHINE, 5: objects, arrays of references, new cells -/
theorem mCe_obj {c5 : Nat → ClassId} {adr : Nat → Nat} {A : Nat → Int32} {B : Nat → Int64} {ci n : Nat} {rs : List (Option Nat)} : mCe c5 adr A B (5 + ci, n, rs) = .inr (ci, (List.range n).map (mFv adr A ci rs)) := by
  rw [Nat.add_comm]
  rfl
theorem mCl_get : ∀ ci, ci ≤ 9 → mCl[ci]? = some (mR ci, mT ci, mN ci)
  | 0, _ => rfl | 1, _ => rfl | 2, _ => rfl | 3, _ => rfl | 4, _ => rfl | 5, _ => rfl | 6, _ => rfl | 7, _ => rfl | 8, _ => rfl | 9, _ => rfl
  | n + 10, h => by omega
theorem mTy_ok : ∀ ci, ci ≤ 9 → ∀ k, k < mN ci → parseFieldDescriptor (mT ci k).2.2.1 = some (mTy ci k)
  | 0, _ => tyX0_ok | 1, _ => tyX1_ok | 2, _ => tyX2_ok | 3, _ => tyX3_ok | 4, _ => tyX4_ok | 5, _ => tyX5_ok | 6, _ => tyX6_ok | 7, _ => tyX7_ok | 8, _ => tyX8_ok | 9, _ => tyX9_ok
  | n + 10, h => by omega
theorem mNm_ok : ∀ ci, ci ≤ 9 → ∀ a, a < mN ci → ∀ b, b < mN ci → a ≠ b → (mT ci a).2.1 ≠ (mT ci b).2.1
  | 0, _ => nmX0 | 1, _ => nmX1 | 2, _ => nmX2 | 3, _ => nmX3 | 4, _ => nmX4 | 5, _ => nmX5 | 6, _ => nmX6 | 7, _ => nmX7 | 8, _ => nmX8 | 9, _ => nmX9
  | n + 10, h => by omega
theorem mDef_ok : ∀ ci, ci ≤ 9 → ∀ j, j < mN ci → defaultValue (mTy ci j) = (bif mRf ci j then Value.null else .int 0) := by
  intro ci hc
  rcases (show ci = 0 ∨ ci = 1 ∨ ci = 2 ∨ ci = 3 ∨ ci = 4 ∨ ci = 5 ∨ ci = 6 ∨ ci = 7 ∨ ci = 8 ∨ ci = 9 by omega) with rfl | rfl | rfl | rfl | rfl | rfl | rfl | rfl | rfl | rfl <;> decide +kernel
theorem mFt_ok : ∀ ci, ci ≤ 9 → ∀ j, j < mN ci → (mRf ci j = true → fits (mTy ci j) (.ref 0) = true) ∧ (mRf ci j = false → mTy ci j = bif mBo ci j then .boolean else .int) := by
  intro ci hc
  rcases (show ci = 0 ∨ ci = 1 ∨ ci = 2 ∨ ci = 3 ∨ ci = 4 ∨ ci = 5 ∨ ci = 6 ∨ ci = 7 ∨ ci = 8 ∨ ci = 9 by omega) with rfl | rfl | rfl | rfl | rfl | rfl | rfl | rfl | rfl | rfl <;> decide +kernel
theorem mFt_ref {ty : FieldType} (h : fits ty (.ref 0) = true) (x : Nat) : fits ty (.ref x) = true ∧ narrow ty (.ref x) = .ref x := by
  cases ty <;> simp_all [fits, narrow]
/-- the tables' words on the fields of the system's classes -/
theorem mLay_ok : ∀ ci, ci ≤ 9 → ∀ w ∈ u_ws (mR ci) (mT ci) (mN ci), w ∈ mG := by
  intro ci hc w hw
  have key : ∀ w ∈ u_ws (mR ci) (mT ci) (mN ci), w ∈ lw_tbl ∧ goodWord w = true := by
    rcases (show ci = 0 ∨ ci = 1 ∨ ci = 2 ∨ ci = 3 ∨ ci = 4 ∨ ci = 5 ∨ ci = 6 ∨ ci = 7 ∨ ci = 8 ∨ ci = 9 by omega) with rfl | rfl | rfl | rfl | rfl | rfl | rfl | rfl | rfl | rfl <;> decide +kernel
  exact mG_of (key w hw).1 (key w hw).2
theorem mFv_setA {adr : Nat → Nat} {A : Nat → Int32} {ci n k : Nat} {rs : List (Option Nat)} {x : Int32} (hr : mRf ci k = false) : ((List.range n).map (mFv adr A ci rs)).set k (.int x) = (List.range n).map (mFv adr (upd A k x) ci rs) := by
  apply List.ext_getElem?
  intro i
  rw [List.getElem?_set]
  by_cases hi : k = i
  · subst hi
    by_cases hn : k < n
    · simp [hn, mFv, hr, upd]
    · simp [hn]
  · rw [if_neg hi]
    by_cases hn : i < n
    · have hi2 : ¬ i = k := fun e => hi e.symm
      simp [hn, mFv, upd, hi2]
    · simp [hn]
theorem mFv_setR {adr : Nat → Nat} {A : Nat → Int32} {ci n k r : Nat} {rs : List (Option Nat)} (hr : mRf ci k = true) (hl : k < rs.length) : ((List.range n).map (mFv adr A ci rs)).set k (.ref (adr r)) = (List.range n).map (mFv adr A ci (rs.set k (some r))) := by
  apply List.ext_getElem?
  intro i
  rw [List.getElem?_set]
  by_cases hi : k = i
  · subst hi
    by_cases hn : k < n
    · simp [hn, mFv, hr, List.getD_eq_getElem?_getD, List.getElem?_set, hl, va_rf]
    · simp [hn]
  · rw [if_neg hi]
    by_cases hn : i < n
    · simp [hn, mFv, List.getD_eq_getElem?_getD, List.getElem?_set, hi]
    · simp [hn]
section OBJ
variable {p : Program} {l : Launch} {e : Env} {R : Room} {s : State} {m : MethodId} {args : Array Value} {below : List Frame} {meth : Method} {c : Code} {Q : State → Prop} {E : ME} {D : va_G} {c5 : Nat → ClassId} {adr : Nat → Nat} {vF : Value} {base d : Nat} {M : MM} {h0 : MH} {pc : Nat} {L : ML} {S : List Value} {h : MH}
theorem mobj_get {a ci n : Nat} {rs : List (Option Nat)} (hq : h.1[a]? = some (5 + ci, n, rs)) : (mWs c5 adr base h)[a]? = some (base + a, .inr (ci, (List.range n).map (mFv adr (h.2.1 a) ci rs))) := by
  rw [mWs_get hq, mCe_obj]
theorem sn_get {idx a ci n k : Nat} {rs : List (Option Nat)} (C : mCtx E D c5 adr vF base d M R p s m args meth c) (hd : decode M.2.1 pc = .ok (.getfield idx, 3)) (ha : Nat.ble a 999 = true) (hci : ci ≤ 9) (hk : k < mN ci) (hw : Cond.fieldLink M.1.cls idx (mT ci k).1 (mT ci k).2.1 (mT ci k).2.2.1 ∈ mG) (hq : h.1[a]? = some (5 + ci, n, rs)) (hn : k < n) {w : Value} (hv : mlf adr vF w = mFv adr (h.2.1 a) ci rs k) (kk : mAt p l e R s m args below meth c Q D c5 adr vF base M h0 (pc + 3) L (w :: S) h) : mAt p l e R s m args below meth c Q D c5 adr vF base M h0 pc L (.ref a :: S) h := fun ls H locs cells slots hI => by
  show W p l e R s m args below meth c H locs cells slots Q (F0 m pc ls (mad adr vF a :: S.map (mlf adr vF)))
  rw [mlow ha C]
  refine va_get (C := mR ci) (T := mT ci) (N := mN ci) C.1.1 C.1.2.1 C.1.2.2.2.2 (mLay_ok ci hci) C.1.2.2.2.1 C.2.1 hI.2.1.2 a (mobj_get hq) (mCl_get ci hci) k hk (C.1.2.2.2.2 _ hw) (fun _ h9 => h9) (v := mlf adr vF w) (by rw [hv]; simp [hn]) hd (kk ls H locs cells slots hI)
theorem sn_getS {idx a k : Nat} {nm ds : String} (C : mCtx E D c5 adr vF base d M R p s m args meth c) (hd : decode M.2.1 pc = .ok (.getfield idx, 3)) (h1 : 1010 ≤ a) (h2 : a ≤ 1039) (hw : Cond.fieldLink M.1.cls idx "java/lang/String" nm ds ∈ mG) {w : Value} (hv : (nm = "value" ∧ ds = "[B" ∧ w = .ref (a + 40)) ∨ (nm = "coder" ∧ ds = "B" ∧ w = .int 0)) (kk : mAt p l e R s m args below meth c Q D c5 adr vF base M h0 (pc + 3) L (w :: S) h) : mAt p l e R s m args below meth c Q D c5 adr vF base M h0 pc L (.ref a :: S) h := fun ls H locs cells slots hI => by
  show W p l e R s m args below meth c H locs cells slots Q (F0 m pc ls (mad adr vF a :: S.map (mlf adr vF)))
  have hk := kk ls H locs cells slots hI
  obtain ⟨i, hi, rfl⟩ : ∃ i, i < 30 ∧ a = 1010 + i := ⟨a - 1010, by omega, by omega⟩
  obtain ⟨-, f2, f3, -⟩ := C.2.2.2.1.2.2.2 i hi
  rw [mad_ref (nbq (by omega))]
  rcases hv with ⟨rfl, rfl, rfl⟩ | ⟨rfl, rfl, rfl⟩
  · refine vk_getf C.1.1 C.1.2.1 f3 hI.2.2.1 C.1.2.2.2.1 (C.1.2.2.2.2 _ hw) (fun _ h9 => h9) hd ?_
    have e9 : mlf adr vF (.ref (1010 + i + 40)) = .ref (adr (1050 + i)) := by
      show mad adr vF (1010 + i + 40) = _
      rw [mad_ref (nbq (by omega)), show 1010 + i + 40 = 1050 + i by omega]
    rw [List.map_cons, e9] at hk
    exact hk
  · exact vk_getf C.1.1 C.1.2.1 f2 hI.2.2.1 C.1.2.2.2.1 (C.1.2.2.2.2 _ hw) (fun _ h9 => h9) hd hk
theorem sn_putA {idx a ci n k : Nat} {rs : List (Option Nat)} {x : Int32} (C : mCtx E D c5 adr vF base d M R p s m args meth c) (hd : decode M.2.1 pc = .ok (.putfield idx, 3)) (ha : Nat.ble a 999 = true) (hci : ci ≤ 9) (hk : k < mN ci) (hw : Cond.fieldLink M.1.cls idx (mT ci k).1 (mT ci k).2.1 (mT ci k).2.2.1 ∈ mG) (hq : h.1[a]? = some (5 + ci, n, rs)) (hn : k < n) (hrf : mRf ci k = false) (hfin : (mT ci k).2.2.2 = false) (hx : narrow (mTy ci k) (.int x) = .int x ∧ fits (mTy ci k) (.int x) = true) (kk : mAt p l e R s m args below meth c Q D c5 adr vF base M h0 (pc + 3) L S (msetA h a k x)) : mAt p l e R s m args below meth c Q D c5 adr vF base M h0 pc L (.int x :: .ref a :: S) h := fun ls H locs cells slots hI => by
  show W p l e R s m args below meth c H locs cells slots Q (F0 m pc ls (.int x :: mad adr vF a :: S.map (mlf adr vF)))
  rw [mlow ha C]
  refine va_put (C := mR ci) (T := mT ci) (N := mN ci) C.1.1 C.1.2.1 C.1.2.2.2.2 (mLay_ok ci hci) (mTy ci) (mTy_ok ci hci) (mNm_ok ci hci) C.1.2.2.2.1 C.2.1 hI.2.1.2 mWs_D hI.2.2.1 a (mobj_get hq) (mCl_get ci hci) k hk (C.1.2.2.2.2 _ hw) (fun _ h9 => h9) hfin (mTy_ok ci hci k hk) hx.1 hx.2 (by simpa using hn) hd (fun H1 locs1 hP _ hS => ?_)
  obtain ⟨o1, o2, o3⟩ := mup_o (h := h) (h' := msetA h a k x) rfl
  have e9 := mWs_set (c5 := c5) (adr := adr) (base := base) o1 o3 (show (msetA h a k x).1[a]? = some (5 + ci, n, rs) from hq)
  rw [show (msetA h a k x).2.1 a = upd (h.2.1 a) k x from va_up_self _ _ _, mCe_obj, ← mFv_setA hrf] at e9
  exact mAfter hI o1 o2 (by rw [← e9]; exact hP) hS kk
theorem msetR_o {a k r : Nat} {q : Nat × Nat × List (Option Nat)} (hq : h.1[a]? = some q) : (msetR h a k r).1.length = h.1.length ∧ msz (msetR h a k r).1 = msz h.1 ∧ (∀ i, i ≠ a → (msetR h a k r).1[i]? = h.1[i]? ∧ (msetR h a k r).2.1 i = h.2.1 i ∧ (msetR h a k r).2.2 i = h.2.2 i) ∧ (msetR h a k r).1[a]? = some (q.1, q.2.1, q.2.2.set k (some r)) ∧ (msetR h a k r).2 = h.2 := by
  have hl : a < h.1.length := (List.getElem?_eq_some_iff.mp hq).1
  have e9 : msetR h a k r = (h.1.set a (q.1, q.2.1, q.2.2.set k (some r)), h.2) := by simp only [msetR, hq]
  rw [e9]
  refine ⟨by simp, msz_set _ _ _ _ hq rfl, fun i hi => ⟨?_, rfl, rfl⟩, ?_, rfl⟩
  · show (h.1.set a _)[i]? = _
    rw [List.getElem?_set, if_neg (fun e => hi e.symm)]
  · show (h.1.set a _)[a]? = _
    simp [hl]
theorem sn_putR {idx a ci n k r : Nat} {rs : List (Option Nat)} (C : mCtx E D c5 adr vF base d M R p s m args meth c) (hd : decode M.2.1 pc = .ok (.putfield idx, 3)) (ha : Nat.ble a 999 = true) (hr9 : Nat.ble r 999 = true) (hci : ci ≤ 9) (hk : k < mN ci) (hw : Cond.fieldLink M.1.cls idx (mT ci k).1 (mT ci k).2.1 (mT ci k).2.2.1 ∈ mG) (hq : h.1[a]? = some (5 + ci, n, rs)) (hn : k < n) (hkr : k < rs.length) (hrf : mRf ci k = true) (hfin : (mT ci k).2.2.2 = true → M.1.name = "<init>" ∧ (mT ci k).1 = M.1.cls) (kk : mAt p l e R s m args below meth c Q D c5 adr vF base M h0 (pc + 3) L S (msetR h a k r)) : mAt p l e R s m args below meth c Q D c5 adr vF base M h0 pc L (.ref r :: .ref a :: S) h := fun ls H locs cells slots hI => by
  show W p l e R s m args below meth c H locs cells slots Q (F0 m pc ls (mad adr vF r :: mad adr vF a :: S.map (mlf adr vF)))
  have hrn : Nat.beq r 1002 = false := nbq (by have := Nat.le_of_ble_eq_true hr9; omega)
  rw [mlow ha C, mad_ref hrn]
  obtain ⟨g1, g2⟩ := mFt_ref ((mFt_ok ci hci k hk).1 hrf) (adr r)
  have fin : ∀ (H1 : Heap) (locs1 : List Loc), va_P D mCl ((mWs c5 adr base h).set a (base + a, .inr (ci, ((List.range n).map (mFv adr (h.2.1 a) ci rs)).set k (.ref (adr r))))) H1 → va_S (fun q => base ≤ q) s.heap H1 locs1 → W p l e R s m args below meth c H1 locs1 cells slots Q (F0 m (pc + 3) ls (S.map (mlf adr vF))) := by
    intro H1 locs1 hP hS
    obtain ⟨o1, o2, o3, o4, o5⟩ := msetR_o (h := h) (k := k) (r := r) hq
    have e9 := mWs_set (c5 := c5) (adr := adr) (base := base) o1 o3 o4
    rw [o5, mCe_obj, ← mFv_setR hrf hkr] at e9
    exact mAfter hI o1 o2 (by rw [← e9]; exact hP) hS kk
  cases hf : (mT ci k).2.2.2 with
  | false => exact va_put (C := mR ci) (T := mT ci) (N := mN ci) C.1.1 C.1.2.1 C.1.2.2.2.2 (mLay_ok ci hci) (mTy ci) (mTy_ok ci hci) (mNm_ok ci hci) C.1.2.2.2.1 C.2.1 hI.2.1.2 mWs_D hI.2.2.1 a (mobj_get hq) (mCl_get ci hci) k hk (C.1.2.2.2.2 _ hw) (fun _ h9 => h9) hf (mTy_ok ci hci k hk) g2 g1 (by simpa using hn) hd (fun H1 locs1 hP _ hS => fin H1 locs1 hP hS)
  | true => exact va_putF (C := mR ci) (T := mT ci) (N := mN ci) C.1.1 C.1.2.1 C.1.2.2.2.2 (mLay_ok ci hci) (mTy ci) (mTy_ok ci hci) (mNm_ok ci hci) C.1.2.2.2.1 C.2.1 hI.2.1.2 mWs_D hI.2.2.1 a (mobj_get hq) (mCl_get ci hci) k hk (C.1.2.2.2.2 _ hw) (fun _ h9 => h9) hf (C.2.2.1.trans (hfin hf).1) (hfin hf).2 (mTy_ok ci hci k hk) g2 g1 (by simpa using hn) hd (fun H1 locs1 hP _ hS => fin H1 locs1 hP hS)
theorem mRefs_set {adr : Nat → Nat} {rs : List (Option Nat)} {k r : Nat} (hl : k < rs.length) : va_up (fun j => (rs.getD j none).map adr) k (some (adr r)) = fun j => ((rs.set k (some r)).getD j none).map adr := by
  funext j
  by_cases hj : j = k
  · subst hj
    simp [va_up, List.getD_eq_getElem?_getD, List.getElem?_set, hl]
  · have hj2 : ¬ k = j := fun e => hj e.symm
    simp [va_up, hj, List.getD_eq_getElem?_getD, List.getElem?_set, hj2]
theorem sn_aast {a n b r : Nat} {rs : List (Option Nat)} {i : Int32} (C : mCtx E D c5 adr vF base d M R p s m args meth c) (hd : decode M.2.1 pc = .ok (.aastore, 1)) (ha : Nat.ble a 999 = true) (hq : h.1[a]? = some (3 + b, n, rs)) (hi : vp_in i n) (hl : i.toNatClampNeg < rs.length) (hr : (b = 0 ∧ Nat.ble r 999 = true ∧ ∃ n2 rs2, h.1[r]? = some (5 + 3, n2, rs2)) ∨ (b = 1 ∧ 1010 ≤ r ∧ r ≤ 1039)) (kk : mAt p l e R s m args below meth c Q D c5 adr vF base M h0 (pc + 1) L S (msetR h a i.toNatClampNeg r)) : mAt p l e R s m args below meth c Q D c5 adr vF base M h0 pc L (.ref r :: .int i :: .ref a :: S) h := fun ls H locs cells slots hI => by
  show W p l e R s m args below meth c H locs cells slots Q (F0 m pc ls (mad adr vF r :: .int i :: mad adr vF a :: S.map (mlf adr vF)))
  rw [mlow ha C]
  obtain ⟨o1, o2, o3, o4, o5⟩ := msetR_o (h := h) (k := i.toNatClampNeg) (r := r) hq
  have e9 := mWs_set (c5 := c5) (adr := adr) (base := base) o1 o3 o4
  rw [o5] at e9
  rcases hr with ⟨rfl, hr9, n2, rs2, hq2⟩ | ⟨rfl, r1, r2⟩
  · have e8 : mad adr vF r = .ref (base + r) := mlow hr9 C
    have e7 : adr r = base + r := C.2.2.2.2.2.2.2 r (Nat.le_of_ble_eq_true hr9)
    rw [e8]
    refine va_astq C.1.1 C.1.2.1 C.2.1 hI.2.1.2 mWs_D hI.2.2.1 a 3 r 3 (mWs_get hq) rfl (mobj_get (ci := 3) hq2) (r := (RX3, TX3, 3)) rfl hi hd (fun H1 locs1 hP _ hS => ?_)
    rw [← e7, mRefs_set hl] at hP
    exact mAfter hI o1 o2 (by rw [← e9]; exact hP) hS kk
  · rw [mad_ref (nbq (by omega))]
    obtain ⟨j, hj, rfl⟩ : ∃ j, j < 30 ∧ r = 1010 + j := ⟨r - 1010, by omega, by omega⟩
    obtain ⟨f1, -⟩ := C.2.2.2.1.2.2.2 j hj
    obtain ⟨cell, g1, g2, g3, -⟩ := f1.kept hI.2.2.1.2.1
    obtain ⟨kC, hkC, -⟩ := Vm.findClass_spec g3
    refine va_astqM C.1.1 C.1.2.1 C.2.1 hI.2.1.2 mWs_D hI.2.2.1 a 4 (mWs_get hq) rfl ⟨cell, g1, g2, ⟨kC, hkC⟩, fun comp hc => ?_⟩ hi hd (fun H1 locs1 hP _ hS => ?_)
    · cases hc.symm.trans g3
      exact assignable_same _ _
    · rw [mRefs_set hl] at hP
      exact mAfter hI o1 o2 (by rw [← e9]; exact hP) hS kk
theorem sn_gets {idx k : Nat} {C9 nm ds : String} {w : Value} (C : mCtx E D c5 adr vF base d M R p s m args meth c) (hd : decode M.2.1 pc = .ok (.getstatic idx, 3)) (hw : Cond.fieldLink M.1.cls idx C9 nm ds ∈ mG) (hv : (C9 = "GlacierStreets" ∧ nm = "UNDER" ∧ ds = "[I" ∧ w = .ref 1001) ∨ (C9 = "java/lang/String" ∧ nm = "COMPACT_STRINGS" ∧ ds = "Z" ∧ w = .int 1) ∨ (C9 = "jdk/internal/util/Preconditions" ∧ nm = "SIOOBE_FORMATTER" ∧ ds = "Ljava/util/function/BiFunction;" ∧ w = .ref 1002)) (kk : mAt p l e R s m args below meth c Q D c5 adr vF base M h0 (pc + 3) L (w :: S) h) : mAt p l e R s m args below meth c Q D c5 adr vF base M h0 pc L S h := fun ls H locs cells slots hI => by
  have hk := kk ls H locs cells slots hI
  obtain ⟨-, -, z1, z2, z3⟩ := C.2.2.2.1.1
  rcases hv with ⟨rfl, rfl, rfl, rfl⟩ | ⟨rfl, rfl, rfl, rfl⟩ | ⟨rfl, rfl, rfl, rfl⟩
  · exact va_gets C.1.1 C.1.2.1 z1 hI.2.2.1 C.1.2.2.2.1 (C.1.2.2.2.2 _ hw) (fun _ h9 => h9) hd hk
  · exact va_gets C.1.1 C.1.2.1 z2 hI.2.2.1 C.1.2.2.2.1 (C.1.2.2.2.2 _ hw) (fun _ h9 => h9) hd hk
  · exact va_gets C.1.1 C.1.2.1 z3 hI.2.2.1 C.1.2.2.2.1 (C.1.2.2.2.2 _ hw) (fun _ h9 => h9) hd hk
/-- behind a new cell -/
theorem mBorn {kd n : Nat} {rs : List (Option Nat)} {ls : Array Slot} {H H1 : Heap} {locs : List Loc} {cells slots : Nat} (C : mCtx E D c5 adr vF base d M R p s m args meth c) (hI : mInv D c5 adr vF base h0 R M.2.2.1 s ls H locs cells slots L h) (h9 : h.1.length + 1 ≤ 999) (hc : h.1.length + 1 ≤ h0.1.length + R.cells) (hs : msz h.1 + n ≤ msz h0.1 + R.slots) (z : H1.size = H.size + 1) (o : ∀ q, q < H.size → H1[q]? = H[q]?) (he : va_at D mCl (H.size, mCe c5 adr (fun _ => 0) (fun _ => 0) (kd, n, rs)) H1) (kk : mAt p l e R s m args below meth c Q D c5 adr vF base M h0 pc L (.ref h.1.length :: S) (mnewA h kd n rs)) : W p l e R s m args below meth c H1 locs (cells + 1) (slots + n) Q (F0 m pc ls (.ref H.size :: S.map (mlf adr vF))) := by
  obtain ⟨i1, i2, i3, i4, i5, i6, i7, i8⟩ := hI
  have hk := kk ls H1 locs (cells + 1) (slots + n) ⟨i1, mRel_push i2 (by omega) z o he, ⟨Nat.le_trans i3.1 (by omega), fun q q1 q2 => (o q (Nat.lt_of_lt_of_le q1 i3.1)).trans (i3.2.1 q q1 q2), i3.2.2⟩, by show _ = (h.1 ++ [_]).length; simp; omega, by show _ = msz (h.1 ++ [_]); rw [msz_app]; simp; omega, by omega, by omega, i8⟩
  have e9 : mlf adr vF (.ref h.1.length) = .ref H.size := by
    show mad adr vF h.1.length = _
    rw [mad_ref (nbq (by omega)), C.2.2.2.2.2.2.2 _ (by omega), i2.1.1]
  rw [List.map_cons, e9] at hk
  exact hk
theorem sn_new {idx ci : Nat} (C : mCtx E D c5 adr vF base d M R p s m args meth c) (hd : decode M.2.1 pc = .ok (.new idx, 3)) (hci : ci ≤ 9) (w1 : Cond.classLink M.1.cls idx (mR ci) ∈ mG) (w2 : Cond.instantiable (mR ci) (mN ci) ∈ mG) (w3 : Cond.initialized (mR ci) ∈ mG) (h9 : h.1.length + 1 ≤ 999) (hc : h.1.length + 1 ≤ h0.1.length + R.cells) (hs : msz h.1 + mN ci ≤ msz h0.1 + R.slots) (kk : mAt p l e R s m args below meth c Q D c5 adr vF base M h0 (pc + 3) L (.ref h.1.length :: S) (mnewA h (5 + ci) (mN ci) (List.replicate (mN ci) none))) : mAt p l e R s m args below meth c Q D c5 adr vF base M h0 pc L S h := fun ls H locs cells slots hI => by
  have hKn := C.2.1.1 ci _ (mCl_get ci hci)
  have hI' := hI
  obtain ⟨-, -, -, i4, i5, -, -, -⟩ := hI'
  refine W.newcK C.1.1 C.1.2.1 C.1.2.2.2.1 (C.1.2.2.2.2 _ w1) (C.1.2.2.2.2 _ w2) (C.1.2.2.2.2 _ w3) rfl hd (by omega) (by omega) hKn.2.1 rfl fun H1 kC hkC e1 z1 o1 => ?_
  refine mBorn C hI h9 hc hs z1 o1 ?_ kk
  rw [mCe_obj]
  refine ⟨_, mCl_get ci hci, (u_born (mTy ci) C.1.2.2.2.2 (mLay_ok ci hci) hKn hkC e1 (mTy_ok ci hci)).to (fun j hj => ?_)⟩
  rw [mDef_ok ci hci j hj]
  simp [vp_V, List.getD_eq_getElem?_getD, hj, mFv, va_rf]
theorem sn_newa {at9 : ArrayType} {kd : Nat} {x : Int32} (C : mCtx E D c5 adr vF base d M R p s m args meth c) (hd : decode M.2.1 pc = .ok (.newarray at9, 2)) (hk : (kd = 0 ∧ at9 = .int) ∨ (kd = 1 ∧ at9 = .boolean) ∨ (kd = 2 ∧ at9 = .long)) (w1 : Cond.arrayClass (newarray.typeOf at9) ∈ mG) (hx : ¬ x < 0) (h9 : h.1.length + 1 ≤ 999) (hc : h.1.length + 1 ≤ h0.1.length + R.cells) (hs : msz h.1 + x.toNatClampNeg ≤ msz h0.1 + R.slots) (hsm : x.toNatClampNeg ≤ 1000) (kk : mAt p l e R s m args below meth c Q D c5 adr vF base M h0 (pc + 2) L (.ref h.1.length :: S) (mnewA h kd x.toNatClampNeg [])) : mAt p l e R s m args below meth c Q D c5 adr vF base M h0 pc L (.int x :: S) h := fun ls H locs cells slots hI => by
  have hI' := hI
  obtain ⟨-, -, -, i4, i5, -, -, -⟩ := hI'
  have hby : x.toNatClampNeg * componentBytes (newarray.typeOf at9) ≤ 536870912 := by
    have : componentBytes (newarray.typeOf at9) ≤ 8 := by
      rcases hk with ⟨-, rfl⟩ | ⟨-, rfl⟩ | ⟨-, rfl⟩ <;> decide
    have := Nat.mul_le_mul hsm this
    omega
  refine va_newaK C.1.1 C.1.2.1 (C.1.2.2.2.2 _ w1) rfl hd rfl hx rfl hby (by omega) (by omega) rfl (fun H1 cA e1 z1 o1 hA hf => ?_)
  refine mBorn C hI h9 hc hs z1 o1 ?_ kk
  rcases hk with ⟨rfl, rfl⟩ | ⟨rfl, rfl⟩ | ⟨rfl, rfl⟩
  · have hr : s.vm.findClass ("[" ++ (FieldType.int).toString) = some (c5 0) := (C.2.1.2 0 _ rfl).2
    cases hf.symm.trans hr
    exact e1
  · have hr : s.vm.findClass ("[" ++ (FieldType.boolean).toString) = some (c5 1) := (C.2.1.2 1 _ rfl).2
    cases hf.symm.trans hr
    exact e1
  · have hr : s.vm.findClass ("[" ++ (FieldType.long).toString) = some (c5 2) := (C.2.1.2 2 _ rfl).2
    cases hf.symm.trans hr
    exact e1
theorem sn_anew {idx b : Nat} {C9 : String} {x : Int32} (C : mCtx E D c5 adr vF base d M R p s m args meth c) (hd : decode M.2.1 pc = .ok (.anewarray idx, 3)) (hk : (b = 0 ∧ C9 = RX3) ∨ (b = 1 ∧ C9 = "java/lang/String")) (w1 : Cond.classLink M.1.cls idx C9 ∈ mG) (hx : ¬ x < 0) (h9 : h.1.length + 1 ≤ 999) (hc : h.1.length + 1 ≤ h0.1.length + R.cells) (hs : msz h.1 + x.toNatClampNeg ≤ msz h0.1 + R.slots) (hsm : x.toNatClampNeg ≤ 1000) (kk : mAt p l e R s m args below meth c Q D c5 adr vF base M h0 (pc + 3) L (.ref h.1.length :: S) (mnewA h (3 + b) x.toNatClampNeg (List.replicate x.toNatClampNeg none))) : mAt p l e R s m args below meth c Q D c5 adr vF base M h0 pc L (.int x :: S) h := fun ls H locs cells slots hI => by
  have hI' := hI
  obtain ⟨-, -, -, i4, i5, -, -, -⟩ := hI'
  have hao : va_AO C9 s := by
    rcases hk with ⟨-, rfl⟩ | ⟨-, rfl⟩
    · exact C.2.2.2.1.2.2.1.2.1
    · exact C.2.2.2.1.2.2.1.2.2
  refine W.anew C.1.1 C.1.2.1 C.1.2.2.2.1 (C.1.2.2.2.2 _ w1) (va_AO.use hao) rfl hd rfl hx (by omega) (by omega) (by omega) fun cA kA comp f1 f2 f3 f4 => ?_
  generalize hH1 : H.push ({ cls := cA, slots := Array.replicate x.toNatClampNeg .null, vm := .none } : Cell) = H1
  have z1 : H1.size = H.size + 1 := by rw [← hH1, Array.size_push]
  have e1 : H1[H.size]? = some (arrV cA x.toNatClampNeg (fun _ => .null)) := by rw [← hH1, Array.getElem?_push_size, ← arrV_new]
  have o1 : ∀ q : Nat, q < H.size → H1[q]? = H[q]? := fun q hq => by rw [← hH1, Array.getElem?_push, if_neg (Nat.ne_of_lt hq)]
  refine mBorn C hI h9 hc hs z1 o1 ?_ kk
  have e8 : (fun k => ((List.replicate x.toNatClampNeg (none : Option Nat)).getD k none).map adr) = fun _ => none := by
    funext k
    simp [List.getD_eq_getElem?_getD, List.getElem?_replicate]
    split <;> simp
  rcases hk with ⟨rfl, rfl⟩ | ⟨rfl, rfl⟩
  · obtain ⟨-, -, -, -, -, g⟩ := (C.2.1.2 3 _ rfl).2
    cases f1.symm.trans g
    show H1[H.size]? = some (vp_cell (c5 3) (x.toNatClampNeg, .inr (.inr (.inr (.inr fun k => ((List.replicate x.toNatClampNeg (none : Option Nat)).getD k none).map adr)))))
    rw [e8]
    exact e1
  · obtain ⟨-, -, -, -, -, g⟩ := (C.2.1.2 4 _ rfl).2
    cases f1.symm.trans g
    show H1[H.size]? = some (vp_cell (c5 4) (x.toNatClampNeg, .inr (.inr (.inr (.inr fun k => ((List.replicate x.toNatClampNeg (none : Option Nat)).getD k none).map adr)))))
    rw [e8]
    exact e1
theorem sn_copyi {idx a b na nb : Nat} {ra rb : List (Option Nat)} {n dp sp : Int32} (C : mCtx E D c5 adr vF base d M R p s m args meth c) (hd : decode M.2.1 pc = .ok (.invokestatic idx, 3)) (w1 : Cond.methodLink M.1.cls idx arraycopyName ∈ mG) (w2 : Cond.native arraycopyName ∈ mG) (w3 : Cond.static arraycopyName ∈ mG) (w4 : Cond.initialized "java/lang/System" ∈ mG) (hd1 : 1 ≤ d) (hS8 : mcs S ≤ 8) (ha9 : Nat.ble a 999 = true) (hb9 : Nat.ble b 999 = true) (ha : h.1[a]? = some (0, na, ra)) (hb : h.1[b]? = some (0, nb, rb)) (h1 : ¬ sp < 0) (h2 : ¬ dp < 0) (h3 : ¬ n < 0) (h4 : sp.toNatClampNeg + n.toNatClampNeg ≤ na) (h5 : dp.toNatClampNeg + n.toNatClampNeg ≤ nb) (kk : mAt p l e R s m args below meth c Q D c5 adr vF base M h0 (pc + 3) L S (h.1, va_up h.2.1 b (va_cpy (h.2.1 a) (h.2.1 b) sp.toNatClampNeg dp.toNatClampNeg n.toNatClampNeg), h.2.2)) : mAt p l e R s m args below meth c Q D c5 adr vF base M h0 pc L (.int n :: .int dp :: .ref b :: .int sp :: .ref a :: S) h := fun ls H locs cells slots hI => by
  show W p l e R s m args below meth c H locs cells slots Q (F0 m pc ls (.int n :: .int dp :: mad adr vF b :: .int sp :: mad adr vF a :: S.map (mlf adr vF)))
  rw [mlow ha9 C, mlow hb9 C]
  refine va_copyi C.1.1 C.1.2.1 (C.1.2.2.1.trans hI.1.size.symm) C.1.2.2.2.1 (C.1.2.2.2.2 _ w1) (C.1.2.2.2.2 _ w2) (C.1.2.2.2.2 _ w3) (C.1.2.2.2.2 _ w4) C.2.1 hI.2.1.2 mWs_D hI.2.2.1 a b 0 0 (mWs_get ha) (mWs_get hb) rfl rfl rfl h1 h2 h3 h4 h5 (fun _ _ => rfl) (Nat.le_trans hd1 C.2.2.2.2.2.1) ?_ hd (fun H1 locs1 hP _ hS => ?_)
  · rw [mcs_eq C.2.2.2.1.2.1]
    have : nativeFrameWords "java/lang/System" "arraycopy" 5 = 7 := by decide
    have := C.2.2.2.2.2.2.1
    omega
  · obtain ⟨o1, o2, o3⟩ := mup_o (h := h) (h' := (h.1, va_up h.2.1 b (va_cpy (h.2.1 a) (h.2.1 b) sp.toNatClampNeg dp.toNatClampNeg n.toNatClampNeg), h.2.2)) rfl
    have e9 := mWs_set (c5 := c5) (adr := adr) (base := base) o1 o3 hb
    dsimp only at e9
    rw [va_up_self] at e9
    exact mAfter hI o1 o2 (by rw [← e9]; exact hP) hS kk
theorem sn_copyl {idx a b na nb : Nat} {ra rb : List (Option Nat)} {n dp sp : Int32} (C : mCtx E D c5 adr vF base d M R p s m args meth c) (hd : decode M.2.1 pc = .ok (.invokestatic idx, 3)) (w1 : Cond.methodLink M.1.cls idx arraycopyName ∈ mG) (w2 : Cond.native arraycopyName ∈ mG) (w3 : Cond.static arraycopyName ∈ mG) (w4 : Cond.initialized "java/lang/System" ∈ mG) (hd1 : 1 ≤ d) (hS8 : mcs S ≤ 8) (ha9 : Nat.ble a 999 = true) (hb9 : Nat.ble b 999 = true) (ha : h.1[a]? = some (2, na, ra)) (hb : h.1[b]? = some (2, nb, rb)) (h1 : ¬ sp < 0) (h2 : ¬ dp < 0) (h3 : ¬ n < 0) (h4 : sp.toNatClampNeg + n.toNatClampNeg ≤ na) (h5 : dp.toNatClampNeg + n.toNatClampNeg ≤ nb) (kk : mAt p l e R s m args below meth c Q D c5 adr vF base M h0 (pc + 3) L S (h.1, h.2.1, va_up h.2.2 b (va_cpy (h.2.2 a) (h.2.2 b) sp.toNatClampNeg dp.toNatClampNeg n.toNatClampNeg))) : mAt p l e R s m args below meth c Q D c5 adr vF base M h0 pc L (.int n :: .int dp :: .ref b :: .int sp :: .ref a :: S) h := fun ls H locs cells slots hI => by
  show W p l e R s m args below meth c H locs cells slots Q (F0 m pc ls (.int n :: .int dp :: mad adr vF b :: .int sp :: mad adr vF a :: S.map (mlf adr vF)))
  rw [mlow ha9 C, mlow hb9 C]
  refine va_copyl C.1.1 C.1.2.1 (C.1.2.2.1.trans hI.1.size.symm) C.1.2.2.2.1 (C.1.2.2.2.2 _ w1) (C.1.2.2.2.2 _ w2) (C.1.2.2.2.2 _ w3) (C.1.2.2.2.2 _ w4) C.2.1 hI.2.1.2 mWs_D hI.2.2.1 a b 2 2 (mWs_get ha) (mWs_get hb) rfl rfl rfl h1 h2 h3 h4 h5 (fun _ _ => rfl) (Nat.le_trans hd1 C.2.2.2.2.2.1) ?_ hd (fun H1 locs1 hP _ hS => ?_)
  · rw [mcs_eq C.2.2.2.1.2.1]
    have : nativeFrameWords "java/lang/System" "arraycopy" 5 = 7 := by decide
    have := C.2.2.2.2.2.2.1
    omega
  · obtain ⟨o1, o2, o3⟩ := mup_l (h := h) (h' := (h.1, h.2.1, va_up h.2.2 b (va_cpy (h.2.2 a) (h.2.2 b) sp.toNatClampNeg dp.toNatClampNeg n.toNatClampNeg))) rfl
    have e9 := mWs_set (c5 := c5) (adr := adr) (base := base) o1 o3 hb
    dsimp only at e9
    rw [va_up_self] at e9
    exact mAfter hI o1 o2 (by rw [← e9]; exact hP) hS kk
theorem sn_max {idx : Nat} {x y : Int32} (C : mCtx E D c5 adr vF base d M R p s m args meth c) (hd : decode M.2.1 pc = .ok (.invokestatic idx, 3)) (w1 : Cond.methodLink M.1.cls idx Lib.Math.max.name ∈ mG) (w2 : Cond.static Lib.Math.max.name ∈ mG) (w3 : Cond.initialized "java/lang/Math" ∈ mG) (w4 : Cond.code Lib.Math.max.name Lib.Math.max.code 2 (some .int) ∈ mG) (hd1 : 1 ≤ d) (hS8 : mcs S ≤ 8) (kk : mAt p l e R s m args below meth c Q D c5 adr vF base M h0 (pc + 3) L (.int (mx x y) :: S) h) : mAt p l e R s m args below meth c Q D c5 adr vF base M h0 pc L (.int y :: .int x :: S) h := fun ls H locs cells slots hI => by
  refine va_mmax C.1.1 C.1.2.1 (C.1.2.2.1.trans hI.1.size.symm) C.1.2.2.2.1 (C.1.2.2.2.2 _ w1) (C.1.2.2.2.2 _ w2) (C.1.2.2.2.2 _ w3) (C.1.2.2.2.2 _ w4) (Nat.le_trans hd1 C.2.2.2.2.2.1) ?_ hI.2.2.2.2.2.1 hI.2.2.2.2.2.2.1 hd (kk ls H locs cells slots hI)
  rw [mcs_eq C.2.2.2.1.2.1]
  have := C.2.2.2.2.2.2.1
  omega
theorem sn_min {idx : Nat} {x y : Int32} (C : mCtx E D c5 adr vF base d M R p s m args meth c) (hd : decode M.2.1 pc = .ok (.invokestatic idx, 3)) (w1 : Cond.methodLink M.1.cls idx Lib.Math.min.name ∈ mG) (w2 : Cond.static Lib.Math.min.name ∈ mG) (w3 : Cond.initialized "java/lang/Math" ∈ mG) (w4 : Cond.code Lib.Math.min.name Lib.Math.min.code 2 (some .int) ∈ mG) (hd1 : 1 ≤ d) (hS8 : mcs S ≤ 8) (kk : mAt p l e R s m args below meth c Q D c5 adr vF base M h0 (pc + 3) L (.int (mn x y) :: S) h) : mAt p l e R s m args below meth c Q D c5 adr vF base M h0 pc L (.int y :: .int x :: S) h := fun ls H locs cells slots hI => by
  refine va_mmin C.1.1 C.1.2.1 (C.1.2.2.1.trans hI.1.size.symm) C.1.2.2.2.1 (C.1.2.2.2.2 _ w1) (C.1.2.2.2.2 _ w2) (C.1.2.2.2.2 _ w3) (C.1.2.2.2.2 _ w4) (Nat.le_trans hd1 C.2.2.2.2.2.1) ?_ hI.2.2.2.2.2.1 hI.2.2.2.2.2.2.1 hd (kk ls H locs cells slots hI)
  rw [mcs_eq C.2.2.2.1.2.1]
  have := C.2.2.2.2.2.2.1
  omega
theorem sn_abs {idx : Nat} {x : Int32} (C : mCtx E D c5 adr vF base d M R p s m args meth c) (hd : decode M.2.1 pc = .ok (.invokestatic idx, 3)) (w1 : Cond.methodLink M.1.cls idx Lib.Math.abs.name ∈ mG) (w2 : Cond.static Lib.Math.abs.name ∈ mG) (w3 : Cond.initialized "java/lang/Math" ∈ mG) (w4 : Cond.code Lib.Math.abs.name Lib.Math.abs.code 1 (some .int) ∈ mG) (hd1 : 1 ≤ d) (hS8 : mcs S ≤ 8) (kk : mAt p l e R s m args below meth c Q D c5 adr vF base M h0 (pc + 3) L (.int (ab x) :: S) h) : mAt p l e R s m args below meth c Q D c5 adr vF base M h0 pc L (.int x :: S) h := fun ls H locs cells slots hI => by
  refine va_mabs C.1.1 C.1.2.1 (C.1.2.2.1.trans hI.1.size.symm) C.1.2.2.2.1 (C.1.2.2.2.2 _ w1) (C.1.2.2.2.2 _ w2) (C.1.2.2.2.2 _ w3) (C.1.2.2.2.2 _ w4) (Nat.le_trans hd1 C.2.2.2.2.2.1) ?_ hI.2.2.2.2.2.1 hI.2.2.2.2.2.2.1 hd (kk ls H locs cells slots hI)
  rw [mcs_eq C.2.2.2.1.2.1]
  have := C.2.2.2.2.2.2.1
  omega
theorem sn_oinit {idx a : Nat} (C : mCtx E D c5 adr vF base d M R p s m args meth c) (hd : decode M.2.1 pc = .ok (.invokespecial idx, 3)) (w1 : Cond.methodLink M.1.cls idx objectInit ∈ mG) (w2 : Cond.instanceMethod objectInit ∈ mG) (w3 : Cond.code objectInit ⟨#[0xb1]⟩ 1 none ∈ mG) (hd1 : 1 ≤ d) (hS8 : mcs S ≤ 8) (ha9 : Nat.ble a 999 = true) (kk : mAt p l e R s m args below meth c Q D c5 adr vF base M h0 (pc + 3) L S h) : mAt p l e R s m args below meth c Q D c5 adr vF base M h0 pc L (.ref a :: S) h := fun ls H locs cells slots hI => by
  show W p l e R s m args below meth c H locs cells slots Q (F0 m pc ls (mad adr vF a :: S.map (mlf adr vF)))
  rw [mlow ha9 C]
  refine W.objInit C.1.1 C.1.2.1 C.1.2.2.2.1 (C.1.2.2.2.2 _ w1) (C.1.2.2.2.2 _ w2) (C.1.2.2.2.2 _ w3) rfl (hI.1.size.trans C.1.2.2.1.symm) rfl hd (Nat.le_trans hd1 C.2.2.2.2.2.1) ?_ (kk ls H locs cells slots hI)
  have h8 := lv_room (m := m) (pc := pc) (ls := ls) (rest := Value.ref (base + a) :: S.map (mlf adr vF)) (st := S.map (mlf adr vF)) (by rw [mcs_eq C.2.2.2.1.2.1]; exact hS8)
  have := C.2.2.2.2.2.2.1
  omega
end OBJ
