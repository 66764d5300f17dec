/-! THE MINI MACHINE AND THE MACHINE, 1: what a mini heap says of a heap -/
def mG : List Cond := lw_tbl.filter goodWord
theorem mG_tbl : ∀ w ∈ mG, w ∈ lw_tbl := fun w h => (List.mem_filter.mp h).1
theorem mG_of {w : Cond} (h : w ∈ lw_tbl) (hg : goodWord w = true) : w ∈ mG := List.mem_filter.mpr ⟨h, hg⟩
theorem mG_in {ws : List Cond} (h : ∀ w ∈ ws, w ∈ mG) : GoodIn mG ws := fun w hw => ⟨h w hw, good_of_word (List.mem_filter.mp (h w hw)).2⟩
def mad (adr : Nat → Nat) (vF : Value) (j : Nat) : Value := bif Nat.beq j 1002 then vF else .ref (adr j)
def mlf (adr : Nat → Nat) (vF : Value) : Value → Value
  | .ref j => mad adr vF j
  | .int x => .int x
  | .long x => .long x
  | .float x => .float x
  | .double x => .double x
  | .null => .null
  | .retAddr x => .retAddr x
theorem mad_ref {adr : Nat → Nat} {vF : Value} {j : Nat} (h : Nat.beq j 1002 = false) : mad adr vF j = .ref (adr j) := by simp [mad, h]
theorem mlf_cat {adr : Nat → Nat} {vF : Value} (hF : vF = .null ∨ ∃ t, vF = .ref t) (v : Value) : (mlf adr vF v).category = v.category := by
  cases v with
  | ref j =>
    show (mad adr vF j).category = 1
    unfold mad
    cases Nat.beq j 1002 with
    | true => rcases hF with rfl | ⟨t, rfl⟩ <;> rfl
    | false => rfl
  | _ => rfl
theorem mcs_eq {adr : Nat → Nat} {vF : Value} (hF : vF = .null ∨ ∃ t, vF = .ref t) : ∀ S : List Value, ((S.map (mlf adr vF)).map fun v => v.category).sum = mcs S
  | [] => rfl
  | v :: S => by
    have := mcs_eq (adr := adr) hF S
    simp only [List.map_cons, List.sum_cons, mcs, mlf_cat hF, this]
/-- what a field holds -/
def mFv (adr : Nat → Nat) (A : Nat → Int32) (ci : Nat) (rs : List (Option Nat)) (k : Nat) : Value := bif mRf ci k then va_rf ((rs.getD k none).map adr) else .int (A k)
def mCe (c5 : Nat → ClassId) (adr : Nat → Nat) (A : Nat → Int32) (B : Nat → Int64) (q : Nat × Nat × List (Option Nat)) : va_E := match q.1 with
  | 0 => .inl (c5 0, q.2.1, .inl A)
  | 1 => .inl (c5 1, q.2.1, .inl A)
  | 2 => .inl (c5 2, q.2.1, .inr (.inl B))
  | 3 => .inl (c5 3, q.2.1, .inr (.inr (.inr (.inr fun k => (q.2.2.getD k none).map adr))))
  | 4 => .inl (c5 4, q.2.1, .inr (.inr (.inr (.inr fun k => (q.2.2.getD k none).map adr))))
  | k + 5 => .inr (k, (List.range q.2.1).map (mFv adr A k q.2.2))
def mTys (c5 : Nat → ClassId) : List (ClassId × FieldType) := [(c5 0, .int), (c5 1, .boolean), (c5 2, .long), (c5 3, .object RX3), (c5 4, .object "java/lang/String")]
def mWs (c5 : Nat → ClassId) (adr : Nat → Nat) (base : Nat) (h : MH) : va_W := h.1.mapIdx (fun i q => (base + i, mCe c5 adr (h.2.1 i) (h.2.2 i) q))
theorem mWs_get {c5 : Nat → ClassId} {adr : Nat → Nat} {base : Nat} {h : MH} {i : Nat} {q : Nat × Nat × List (Option Nat)} (hq : h.1[i]? = some q) : (mWs c5 adr base h)[i]? = some (base + i, mCe c5 adr (h.2.1 i) (h.2.2 i) q) := by
  simp [mWs, List.getElem?_mapIdx, hq]
theorem mWs_inv {c5 : Nat → ClassId} {adr : Nat → Nat} {base : Nat} {h : MH} {i : Nat} {x : Nat × va_E} (hx : (mWs c5 adr base h)[i]? = some x) : ∃ q, h.1[i]? = some q ∧ x = (base + i, mCe c5 adr (h.2.1 i) (h.2.2 i) q) := by
  simp only [mWs, List.getElem?_mapIdx, Option.map_eq_some_iff] at hx
  obtain ⟨q, h1, h2⟩ := hx
  exact ⟨q, h1, h2.symm⟩
theorem mWs_D {c5 : Nat → ClassId} {adr : Nat → Nat} {base : Nat} {h : MH} : va_D (fun q => base ≤ q) (mWs c5 adr base h) := by
  refine ⟨fun i j p q hp hq e => ?_, fun k q hq => ?_⟩
  · obtain ⟨_, _, rfl⟩ := mWs_inv hp
    obtain ⟨_, _, rfl⟩ := mWs_inv hq
    have e : base + i = base + j := e
    omega
  · obtain ⟨_, _, rfl⟩ := mWs_inv hq
    show base ≤ base + k
    omega
/-- one cell changes -/
theorem mWs_set {c5 : Nat → ClassId} {adr : Nat → Nat} {base : Nat} {h h' : MH} {a : Nat} {q' : Nat × Nat × List (Option Nat)} (hl : h'.1.length = h.1.length) (ho : ∀ i, i ≠ a → h'.1[i]? = h.1[i]? ∧ h'.2.1 i = h.2.1 i ∧ h'.2.2 i = h.2.2 i) (hq : h'.1[a]? = some q') : (mWs c5 adr base h).set a (base + a, mCe c5 adr (h'.2.1 a) (h'.2.2 a) q') = mWs c5 adr base h' := by
  have hal : a < h'.1.length := (List.getElem?_eq_some_iff.mp hq).1
  apply List.ext_getElem?
  intro i
  rw [List.getElem?_set]
  by_cases hi : a = i
  · subst hi
    have : a < (mWs c5 adr base h).length := by simp [mWs]; omega
    simp [this, mWs_get hq]
  · rw [if_neg hi]
    obtain ⟨o1, o2, o3⟩ := ho i (fun e => hi e.symm)
    simp only [mWs, List.getElem?_mapIdx, o1, o2, o3]
def mRel (D : va_G) (c5 : Nat → ClassId) (adr : Nat → Nat) (base : Nat) (h : MH) (H : Heap) : Prop := (H.size = base + h.1.length ∧ h.1.length ≤ 1000) ∧ va_P D mCl (mWs c5 adr base h) H
/-- a new cell -/
theorem mRel_push {D : va_G} {c5 : Nat → ClassId} {adr : Nat → Nat} {base : Nat} {h : MH} {H H1 : Heap} {kd n : Nat} {rs : List (Option Nat)} (hr : mRel D c5 adr base h H) (h9 : h.1.length + 1 ≤ 1000) (hs : H1.size = H.size + 1) (ho : ∀ q, q < H.size → H1[q]? = H[q]?) (he : va_at D mCl (H.size, mCe c5 adr (fun _ => 0) (fun _ => 0) (kd, n, rs)) H1) : mRel D c5 adr base (mnewA h kd n rs) H1 := by
  obtain ⟨⟨h1, -⟩, h2⟩ := hr
  refine ⟨⟨by simp [mnewA]; omega, by simpa [mnewA] using h9⟩, fun k q hk => ?_⟩
  obtain ⟨x, hx, rfl⟩ := mWs_inv hk
  by_cases hkl : k < h.1.length
  · have hx' : h.1[k]? = some x := by
      have : (h.1 ++ [(kd, n, rs)])[k]? = some x := hx
      rwa [List.getElem?_append_left hkl] at this
    have h3 := h2 k _ (mWs_get (c5 := c5) (adr := adr) (base := base) hx')
    have e1 : (mnewA h kd n rs).2.1 k = h.2.1 k := va_up_ne _ _ (Nat.ne_of_lt hkl)
    have e2 : (mnewA h kd n rs).2.2 k = h.2.2 k := va_up_ne _ _ (Nat.ne_of_lt hkl)
    rw [e1, e2]
    exact h3.kept (ho _ (by show base + k < H.size; omega))
  · have hkl2 : k < h.1.length + 1 := by
      have := (List.getElem?_eq_some_iff.mp hx).1
      simpa [mnewA] using this
    have hk2 : k = h.1.length := by omega
    subst hk2
    have hx' : (h.1 ++ [(kd, n, rs)])[h.1.length]? = some x := hx
    rw [List.getElem?_append_right (Nat.le_refl _)] at hx'
    simp at hx'
    subst hx'
    have e1 : (mnewA h kd n rs).2.1 h.1.length = fun _ => 0 := va_up_self _ _ _
    have e2 : (mnewA h kd n rs).2.2 h.1.length = fun _ => 0 := va_up_self _ _ _
    rw [e1, e2, ← h1]
    exact he
/-! what was there before: the script, UNDER, String constants -/
def mSt (i : Nat) : String × Nat × String := mStr.getD i ("", 0, "")
def mBy (i : Nat) : List Int32 := mByt.getD i []
def mSf (E : ME) (adr : Nat → Nat) (vF : Value) (A : Nat → Prop) (U : State) (H : Heap) : Prop :=
  (va_T .int (adr 1000) E.1 (fun j => .int (E.2 j)) A U H ∧ va_T .int (adr 1001) 6 (fun j => .int (mUnder.getD j 0)) A U H ∧ va_Z "GlacierStreets" "UNDER" "[I" (.ref (adr 1001)) A U H ∧ va_Z "java/lang/String" "COMPACT_STRINGS" "Z" (.int 1) A U H ∧ va_Z "jdk/internal/util/Preconditions" "SIOOBE_FORMATTER" "Ljava/util/function/BiFunction;" vF A U H) ∧
  (vF = .null ∨ ∃ t, vF = .ref t) ∧ (va_Nw (.methodLinkNest RX6 113 yX8_within "GlacierStreets") U ∧ va_AO RX3 U ∧ va_AO "java/lang/String" U) ∧
  ∀ i, i < 30 → va_O "java/lang/String" (adr (1010 + i)) A U H ∧ va_OF "java/lang/String" "coder" "B" (.int 0) (adr (1010 + i)) A U H ∧ va_OF "java/lang/String" "value" "[B" (.ref (adr (1050 + i))) (adr (1010 + i)) A U H ∧ va_T .byte (adr (1050 + i)) (mBy i).length (fun j => .int ((mBy i).getD j 0)) A U H ∧ vk_R (mSt i).1 (mSt i).2.1 (mSt i).2.2 (adr (1010 + i)) U
theorem mSf.kept {E : ME} {adr : Nat → Nat} {vF : Value} {A : Nat → Prop} {U : State} {H H1 : Heap} (h : mSf E adr vF A U H) (hq : ∀ a : Nat, a < H.size → ¬ A a → H1[a]? = H[a]?) : mSf E adr vF A U H1 := by
  obtain ⟨⟨a1, a2, a3, a4, a5⟩, b, c, d⟩ := h
  exact ⟨⟨a1.kept hq, a2.kept hq, a3.kept hq, a4.kept hq, a5.kept hq⟩, b, c, fun i hi => by
    obtain ⟨d1, d2, d3, d4, d5⟩ := d i hi
    exact ⟨d1.kept hq, d2.kept hq, d3.kept hq, d4.kept hq, d5⟩⟩
theorem mSf.warm {E : ME} {adr : Nat → Nat} {vF : Value} {A : Nat → Prop} {s U : State} {H : Heap} (hW : s.WarmedH U.vm) (h : mSf E adr vF A s H) : mSf E adr vF A U H := by
  obtain ⟨⟨a1, a2, a3, a4, a5⟩, b, ⟨c1, c2, c3⟩, d⟩ := h
  have hv := hW.alike
  exact ⟨⟨a1.moved hv, a2.moved hv, a3.moved hv, a4.moved hv, a5.moved hv⟩, b, ⟨va_Nw.warmM hW c1, va_AO.moved hv c2, va_AO.moved hv c3⟩, fun i hi => by
    obtain ⟨d1, d2, d3, d4, d5⟩ := d i hi
    exact ⟨d1.moved hv, d2.moved hv, d3.moved hv, d4.moved hv, d5.warm hW⟩⟩
/-- a frame more on the stack: the tables are the same -/
theorem mSf.same {E : ME} {adr : Nat → Nat} {vF : Value} {A : Nat → Prop} {s U : State} {H : Heap} (hv : U.vm = s.vm) (h : mSf E adr vF A s H) : mSf E adr vF A U H := by
  obtain ⟨⟨a1, a2, a3, a4, a5⟩, b, ⟨c1, c2, c3⟩, d⟩ := h
  have hv2 : s.vm.Alike U.vm := by rw [hv]; exact Vm.Alike.refl s.vm
  exact ⟨⟨a1.moved hv2, a2.moved hv2, a3.moved hv2, a4.moved hv2, a5.moved hv2⟩, b, ⟨va_Nw.same rfl hv.symm c1, va_AO.moved hv2 c2, va_AO.moved hv2 c3⟩, fun i hi => by
    obtain ⟨d1, d2, d3, d4, d5⟩ := d i hi
    exact ⟨d1.moved hv2, d2.moved hv2, d3.moved hv2, d4.moved hv2, d5.same hv⟩⟩
/-! locals -/
def mLv (adr : Nat → Nat) (vF : Value) : Nat → ML → List (Nat × Value)
  | _, [] => []
  | i, none :: L => mLv adr vF (i + 1) L
  | i, some v :: L => (i, mlf adr vF v) :: mLv adr vF (i + 1) L
theorem mLv_mem {adr : Nat → Nat} {vF : Value} : ∀ (L : ML) (i : Nat) (x : Nat × Value), x ∈ mLv adr vF i L ↔ ∃ (j : Nat) (v : Value), L[j]? = some (some v) ∧ x = (i + j, mlf adr vF v)
  | [], i, x => by simp [mLv]
  | none :: L, i, x => by
    rw [mLv, mLv_mem L (i + 1) x]
    constructor
    · rintro ⟨j, v, h1, rfl⟩
      exact ⟨j + 1, v, by simpa using h1, by simp; omega⟩
    · rintro ⟨j, v, h1, rfl⟩
      cases j with
      | zero => simp at h1
      | succ j => exact ⟨j, v, by simpa using h1, by simp; omega⟩
  | some w :: L, i, x => by
    rw [mLv, List.mem_cons, mLv_mem L (i + 1) x]
    constructor
    · rintro (rfl | ⟨j, v, h1, rfl⟩)
      · exact ⟨0, w, by simp, by simp⟩
      · exact ⟨j + 1, v, by simpa using h1, by simp; omega⟩
    · rintro ⟨j, v, h1, rfl⟩
      cases j with
      | zero => left; simp at h1; simp [h1]
      | succ j => right; exact ⟨j, v, by simpa using h1, by simp; omega⟩
def mRl (adr : Nat → Nat) (vF : Value) (ls : Array Slot) (nL : Nat) (L : ML) : Prop := L.length = nL ∧ lv_has ls nL (mLv adr vF 0 L)
theorem mRl.get {adr : Nat → Nat} {vF : Value} {ls : Array Slot} {nL : Nat} {L : ML} (h : mRl adr vF ls nL L) {k : Nat} {v : Value} (hk : L[k]? = some (some v)) : ls[k]? = some (.val (mlf adr vF v)) := h.2.2.2 (k, mlf adr vF v) ((mLv_mem L 0 _).mpr ⟨k, v, hk, by simp⟩)
theorem mRl.set1 {adr : Nat → Nat} {vF : Value} (hF : vF = .null ∨ ∃ t, vF = .ref t) {ls' : Array Slot} {nL : Nat} {L : ML} {i : Nat} {v : Value} (hn : L.length = nL) (hf : mfit L i = true) (h' : lv_has ls' nL ((i, mlf adr vF v) :: (mLv adr vF 0 L).filter (fun q => !(q.1 == i) && !(q.1 + 1 == i && q.2.category == 2)))) : mRl adr vF ls' nL (L.set i (some v)) := by
  refine ⟨by simpa using hn, h'.1, h'.2.1, fun q hq => h'.2.2 q ?_⟩
  obtain ⟨j, w, h1, rfl⟩ := (mLv_mem _ 0 q).mp hq
  rw [List.getElem?_set] at h1
  by_cases e : i = j
  · subst e
    rw [if_pos rfl] at h1
    by_cases hl : i < L.length
    · simp [hl] at h1
      subst h1
      simp
    · simp [hl] at h1
  · rw [if_neg e] at h1
    refine List.mem_cons_of_mem _ (List.mem_filter.mpr ⟨(mLv_mem L 0 _).mpr ⟨j, w, h1, rfl⟩, ?_⟩)
    have hne : ¬ (0 + j = i) := by omega
    by_cases hji : j + 1 = i
    · subst hji
      have hc : w.category = 1 := by
        simp only [mfit, h1] at hf
        exact Nat.eq_of_beq_eq_true hf
      simp [mlf_cat hF, hc]
    · simp
      omega
theorem mRl.set2 {adr : Nat → Nat} {vF : Value} (hF : vF = .null ∨ ∃ t, vF = .ref t) {ls' : Array Slot} {nL : Nat} {L : ML} {i : Nat} {v : Value} (hn : L.length = nL) (hf : mfit L i = true) (h' : lv_has ls' nL ((i, mlf adr vF v) :: (mLv adr vF 0 L).filter (fun q => !(q.1 == i) && (!(q.1 == i + 1) && !(q.1 + 1 == i && q.2.category == 2))))) : mRl adr vF ls' nL ((L.set i (some v)).set (i + 1) none) := by
  refine ⟨by simpa using hn, h'.1, h'.2.1, fun q hq => h'.2.2 q ?_⟩
  obtain ⟨j, w, h1, rfl⟩ := (mLv_mem _ 0 q).mp hq
  rw [List.getElem?_set] at h1
  by_cases e1 : i + 1 = j
  · rw [if_pos e1] at h1
    split at h1 <;> simp at h1
  rw [if_neg e1, List.getElem?_set] at h1
  by_cases e : i = j
  · subst e
    rw [if_pos rfl] at h1
    by_cases hl : i < L.length
    · simp [hl] at h1
      subst h1
      simp
    · simp [hl] at h1
  · rw [if_neg e] at h1
    refine List.mem_cons_of_mem _ (List.mem_filter.mpr ⟨(mLv_mem L 0 _).mpr ⟨j, w, h1, rfl⟩, ?_⟩)
    by_cases hji : j + 1 = i
    · subst hji
      have hc : w.category = 1 := by
        simp only [mfit, h1] at hf
        exact Nat.eq_of_beq_eq_true hf
      simp [mlf_cat hF, hc]
      omega
    · simp
      omega
theorem mRl.size {adr : Nat → Nat} {vF : Value} {ls : Array Slot} {nL : Nat} {L : ML} (h : mRl adr vF ls nL L) : ls.size = nL := h.2.1
