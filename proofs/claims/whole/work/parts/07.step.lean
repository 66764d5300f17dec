/-! THE MINI MACHINE AND THE MACHINE, 3: instructions one by one -/
def mAt (p : Program) (l : Launch) (e : Env) (R : Room) (s : State) (m : MethodId) (args : Array Value) (below : List Frame) (meth : Method) (c : Code) (Q : State → Prop) (D : va_G) (c5 : Nat → ClassId) (adr : Nat → Nat) (vF : Value) (base : Nat) (M : MM) (h0 : MH) (pc : Nat) : MN := fun L S h => ∀ (ls : Array Slot) (H : Heap) (locs : List Loc) (cells slots : Nat), mInv D c5 adr vF base h0 R M.2.2.1 s ls H locs cells slots L h → W p l e R s m args below meth c H locs cells slots Q (F0 m pc ls (S.map (mlf adr vF)))
theorem nbq {a b : Nat} (h : a ≠ b) : Nat.beq a b = false := by
  cases hb : Nat.beq a b
  · rfl
  · exact absurd (Nat.eq_of_beq_eq_true hb) h
/-- a String constant by ldc_w -/
theorem lv_ldcwS {p : Program} {l : Launch} {e : Env} {R : Room} {s : State} {m : MethodId} {args : Array Value} {below : List Frame} {meth : Method} {c : Code} {H : Heap} {locs : List Loc} {cells slots : Nat} {Q : State → Prop} {cc : ByteArray} {pc : Nat} {ls : Array Slot} {rest : List Value} (hexec : p.tables.exec = Jvm.exec) (hb : c.code = cc) {own tx : String} {index q : Nat} (hown : s.vm.findClass own = some m.cls) (hZ : vk_R own index tx q s) (hdg : decode cc pc = .ok (.ldc_w index, 3)) (k : W p l e R s m args below meth c H locs cells slots Q (F0 m (pc + 3) ls (.ref q :: rest))) : W p l e R s m args below meth c H locs cells slots Q (F0 m pc ls rest) := by
  intro T hT X
  obtain ⟨t, a1, b1⟩ := k T hT X
  refine ⟨t, ?_, b1⟩
  subst hb
  obtain ⟨k9, cf, i, a', hk, hcf, hcp, -, hr, hev'⟩ := Cond.stringRef_spec hown hZ.1
  cases hZ.2.symm.trans hev'
  obtain ⟨k', hk', he⟩ := X.warmed.alike.2.2 _ _ hk
  have hr' : k'.resolved[index]? = some (some (.string q)) := by
    rcases X.warmed.entry hk hk' index with h | ⟨h, -⟩
    · rw [h]; exact hr
    · rw [hr] at h; cases h
  jvm_step X.here [hexec, hdg, ldc_w.wp_string (e := e) (s := T) (f := F0 m pc ls rest) X.here.top hk' (by rw [he]; exact hcf) hcp hr']
  exact a1
section STEP
variable {p : Program} {l : Launch} {e : Env} {R : Room} {s : State} {m : MethodId} {args : Array Value} {below : List Frame} {meth : Method} {c : Code} {Q : State → Prop} {E : ME} {D : va_G} {c5 : Nat → ClassId} {adr : Nat → Nat} {vF : Value} {base d : Nat} {M : MM} {h0 : MH} {pc : Nat} {L : ML} {S : List Value} {h : MH}
theorem sn_iconst {n : Int} {v : Int32} (C : mCtx E D c5 adr vF base d M R p s m args meth c) (hd : decode M.2.1 pc = .ok (.iconst n, 1)) (hv : Int32.ofInt n = v) (k : mAt p l e R s m args below meth c Q D c5 adr vF base M h0 (pc + 1) L (.int v :: S) h) : mAt p l e R s m args below meth c Q D c5 adr vF base M h0 pc L S h := fun ls H locs cells slots hI => lv_iconst C.1.1 C.1.2.1 hd hv (k ls H locs cells slots hI)
theorem sn_bipush {n : Int} {v : Int32} (C : mCtx E D c5 adr vF base d M R p s m args meth c) (hd : decode M.2.1 pc = .ok (.bipush n, 2)) (hv : (Int8.ofInt n).toInt32 = v) (k : mAt p l e R s m args below meth c Q D c5 adr vF base M h0 (pc + 2) L (.int v :: S) h) : mAt p l e R s m args below meth c Q D c5 adr vF base M h0 pc L S h := fun ls H locs cells slots hI => lv_bipush C.1.1 C.1.2.1 hd hv (k ls H locs cells slots hI)
theorem sn_sipush {n : Int} {v : Int32} (C : mCtx E D c5 adr vF base d M R p s m args meth c) (hd : decode M.2.1 pc = .ok (.sipush n, 3)) (hv : (Int16.ofInt n).toInt32 = v) (k : mAt p l e R s m args below meth c Q D c5 adr vF base M h0 (pc + 3) L (.int v :: S) h) : mAt p l e R s m args below meth c Q D c5 adr vF base M h0 pc L S h := fun ls H locs cells slots hI => lv_sipush C.1.1 C.1.2.1 hd hv (k ls H locs cells slots hI)
theorem sn_lconst {n : Fin 2} {v : Int64} (C : mCtx E D c5 adr vF base d M R p s m args meth c) (hd : decode M.2.1 pc = .ok (.lconst n, 1)) (hv : Int64.ofNat (n : Nat) = v) (k : mAt p l e R s m args below meth c Q D c5 adr vF base M h0 (pc + 1) L (.long v :: S) h) : mAt p l e R s m args below meth c Q D c5 adr vF base M h0 pc L S h := fun ls H locs cells slots hI => lv_lconst C.1.1 C.1.2.1 hd hv (k ls H locs cells slots hI)
theorem sn_ldc2 {n : Nat} {v : Int64} (C : mCtx E D c5 adr vF base d M R p s m args meth c) (hd : decode M.2.1 pc = .ok (.ldc2_w n, 3)) (hw : Cond.constantLong M.1.cls n v ∈ mG) (k : mAt p l e R s m args below meth c Q D c5 adr vF base M h0 (pc + 3) L (.long v :: S) h) : mAt p l e R s m args below meth c Q D c5 adr vF base M h0 pc L S h := fun ls H locs cells slots hI => lv_ldc2 C.1.1 C.1.2.1 C.1.2.2.2.1 (C.1.2.2.2.2 _ hw) hd (k ls H locs cells slots hI)
theorem sn_ldc {n : Nat} {v : Int32} (C : mCtx E D c5 adr vF base d M R p s m args meth c) (hd : decode M.2.1 pc = .ok (.ldc n, 2)) (hw : Cond.constant M.1.cls n v ∈ mG) (k : mAt p l e R s m args below meth c Q D c5 adr vF base M h0 (pc + 2) L (.int v :: S) h) : mAt p l e R s m args below meth c Q D c5 adr vF base M h0 pc L S h := fun ls H locs cells slots hI => lv_ldc C.1.1 C.1.2.1 C.1.2.2.2.1 (C.1.2.2.2.2 _ hw) hd (k ls H locs cells slots hI)
theorem sn_ldcw {n : Nat} {v : Int32} (C : mCtx E D c5 adr vF base d M R p s m args meth c) (hd : decode M.2.1 pc = .ok (.ldc_w n, 3)) (hw : Cond.constant M.1.cls n v ∈ mG) (k : mAt p l e R s m args below meth c Q D c5 adr vF base M h0 (pc + 3) L (.int v :: S) h) : mAt p l e R s m args below meth c Q D c5 adr vF base M h0 pc L S h := fun ls H locs cells slots hI => lv_ldcw C.1.1 C.1.2.1 C.1.2.2.2.1 (C.1.2.2.2.2 _ hw) hd (k ls H locs cells slots hI)
theorem sn_ldcS {n i : Nat} (C : mCtx E D c5 adr vF base d M R p s m args meth c) (hd : decode M.2.1 pc = .ok (.ldc n, 2)) (hi : i < 30) (h1 : (mSt i).1 = M.1.cls) (h2 : (mSt i).2.1 = n) (k : mAt p l e R s m args below meth c Q D c5 adr vF base M h0 (pc + 2) L (.ref (1010 + i) :: S) h) : mAt p l e R s m args below meth c Q D c5 adr vF base M h0 pc L S h := fun ls H locs cells slots hI => by
  have hr := (C.2.2.2.1.2.2.2 i hi).2.2.2.2
  rw [h1, h2] at hr
  have hk := k ls H locs cells slots hI
  have e9 : mad adr vF (1010 + i) = .ref (adr (1010 + i)) := mad_ref (nbq (by omega))
  refine va_ldcS C.1.1 C.1.2.1 C.1.2.2.2.1 hr hd ?_
  rw [← e9]
  exact hk
theorem sn_ldcwS {n i : Nat} (C : mCtx E D c5 adr vF base d M R p s m args meth c) (hd : decode M.2.1 pc = .ok (.ldc_w n, 3)) (hi : i < 30) (h1 : (mSt i).1 = M.1.cls) (h2 : (mSt i).2.1 = n) (k : mAt p l e R s m args below meth c Q D c5 adr vF base M h0 (pc + 3) L (.ref (1010 + i) :: S) h) : mAt p l e R s m args below meth c Q D c5 adr vF base M h0 pc L S h := fun ls H locs cells slots hI => by
  have hr := (C.2.2.2.1.2.2.2 i hi).2.2.2.2
  rw [h1, h2] at hr
  have hk := k ls H locs cells slots hI
  have e9 : mlf adr vF (.ref (1010 + i)) = .ref (adr (1010 + i)) := mad_ref (nbq (by omega))
  rw [List.map_cons, e9] at hk
  exact lv_ldcwS C.1.1 C.1.2.1 C.1.2.2.2.1 hr hd hk
theorem sn_iload_n {k : Fin 4} {x : Int32} (C : mCtx E D c5 adr vF base d M R p s m args meth c) (hd : decode M.2.1 pc = .ok (.iload_n k, 1)) (hl : L[(k : Nat)]? = some (some (.int x))) (kk : mAt p l e R s m args below meth c Q D c5 adr vF base M h0 (pc + 1) L (.int x :: S) h) : mAt p l e R s m args below meth c Q D c5 adr vF base M h0 pc L S h := fun ls H locs cells slots hI => lv_iload_n C.1.1 C.1.2.1 hd rfl (hI.1.get hl) (kk ls H locs cells slots hI)
theorem sn_iload {k : Nat} {x : Int32} (C : mCtx E D c5 adr vF base d M R p s m args meth c) (hd : decode M.2.1 pc = .ok (.iload k, 2)) (hl : L[k]? = some (some (.int x))) (kk : mAt p l e R s m args below meth c Q D c5 adr vF base M h0 (pc + 2) L (.int x :: S) h) : mAt p l e R s m args below meth c Q D c5 adr vF base M h0 pc L S h := fun ls H locs cells slots hI => lv_iload C.1.1 C.1.2.1 hd (hI.1.get hl) (kk ls H locs cells slots hI)
theorem sn_lload_n {k : Fin 4} {x : Int64} (C : mCtx E D c5 adr vF base d M R p s m args meth c) (hd : decode M.2.1 pc = .ok (.lload_n k, 1)) (hl : L[(k : Nat)]? = some (some (.long x))) (kk : mAt p l e R s m args below meth c Q D c5 adr vF base M h0 (pc + 1) L (.long x :: S) h) : mAt p l e R s m args below meth c Q D c5 adr vF base M h0 pc L S h := fun ls H locs cells slots hI => lv_lload_n C.1.1 C.1.2.1 hd rfl (hI.1.get hl) (kk ls H locs cells slots hI)
theorem sn_lload {k : Nat} {x : Int64} (C : mCtx E D c5 adr vF base d M R p s m args meth c) (hd : decode M.2.1 pc = .ok (.lload k, 2)) (hl : L[k]? = some (some (.long x))) (kk : mAt p l e R s m args below meth c Q D c5 adr vF base M h0 (pc + 2) L (.long x :: S) h) : mAt p l e R s m args below meth c Q D c5 adr vF base M h0 pc L S h := fun ls H locs cells slots hI => lv_lload C.1.1 C.1.2.1 hd (hI.1.get hl) (kk ls H locs cells slots hI)
/-- a reference, or null, onto the stack -/
theorem sn_aload_n {k : Fin 4} {x : Nat} (C : mCtx E D c5 adr vF base d M R p s m args meth c) (hd : decode M.2.1 pc = .ok (.aload_n k, 1)) (hl : L[(k : Nat)]? = some (some (.ref x))) (kk : mAt p l e R s m args below meth c Q D c5 adr vF base M h0 (pc + 1) L (.ref x :: S) h) : mAt p l e R s m args below meth c Q D c5 adr vF base M h0 pc L S h := fun ls H locs cells slots hI => by
  have hg := hI.1.get hl
  have hk := kk ls H locs cells slots hI
  have e9 : mlf adr vF (.ref x) = mad adr vF x := rfl
  rw [e9] at hg
  have hk : W p l e R s m args below meth c H locs cells slots Q (F0 m (pc + 1) ls (mad adr vF x :: S.map (mlf adr vF))) := hk
  have hv : mad adr vF x = .null ∨ ∃ t, mad adr vF x = .ref t := by
    unfold mad
    cases Nat.beq x 1002
    · exact Or.inr ⟨_, rfl⟩
    · exact C.2.2.2.1.2.1
  rcases hv with hv | ⟨t, hv⟩
  · rw [hv] at hg hk
    exact lv_aload_nN C.1.1 C.1.2.1 hd rfl hg hk
  · rw [hv] at hg hk
    exact lv_aload_n C.1.1 C.1.2.1 hd rfl hg hk
theorem sn_aload {k : Nat} {x : Nat} (C : mCtx E D c5 adr vF base d M R p s m args meth c) (hd : decode M.2.1 pc = .ok (.aload k, 2)) (hl : L[k]? = some (some (.ref x))) (kk : mAt p l e R s m args below meth c Q D c5 adr vF base M h0 (pc + 2) L (.ref x :: S) h) : mAt p l e R s m args below meth c Q D c5 adr vF base M h0 pc L S h := fun ls H locs cells slots hI => by
  have hg := hI.1.get hl
  have hk := kk ls H locs cells slots hI
  have e9 : mlf adr vF (.ref x) = mad adr vF x := rfl
  rw [e9] at hg
  have hk : W p l e R s m args below meth c H locs cells slots Q (F0 m (pc + 2) ls (mad adr vF x :: S.map (mlf adr vF))) := hk
  have hv : mad adr vF x = .null ∨ ∃ t, mad adr vF x = .ref t := by
    unfold mad
    cases Nat.beq x 1002
    · exact Or.inr ⟨_, rfl⟩
    · exact C.2.2.2.1.2.1
  rcases hv with hv | ⟨t, hv⟩
  · rw [hv] at hg hk
    exact lv_aloadN C.1.1 C.1.2.1 hd hg hk
  · rw [hv] at hg hk
    exact lv_aload C.1.1 C.1.2.1 hd hg hk
theorem sn_istore_n {k : Fin 4} {x : Int32} (C : mCtx E D c5 adr vF base d M R p s m args meth c) (hd : decode M.2.1 pc = .ok (.istore_n k, 1)) (hf : mfit L k = true) (hl : (k : Nat) < L.length) (kk : mAt p l e R s m args below meth c Q D c5 adr vF base M h0 (pc + 1) (L.set k (some (.int x))) S h) : mAt p l e R s m args below meth c Q D c5 adr vF base M h0 pc L (.int x :: S) h := fun ls H locs cells slots hI => lv_istore_n C.1.1 C.1.2.1 hd rfl hI.1.2 (by rw [← hI.1.1]; exact hl) rfl (fun ls' h' => kk ls' H locs cells slots ⟨mRl.set1 C.2.2.2.1.2.1 hI.1.1 hf h', hI.2⟩)
theorem sn_istore {k : Nat} {x : Int32} (C : mCtx E D c5 adr vF base d M R p s m args meth c) (hd : decode M.2.1 pc = .ok (.istore k, 2)) (hf : mfit L k = true) (hl : k < L.length) (kk : mAt p l e R s m args below meth c Q D c5 adr vF base M h0 (pc + 2) (L.set k (some (.int x))) S h) : mAt p l e R s m args below meth c Q D c5 adr vF base M h0 pc L (.int x :: S) h := fun ls H locs cells slots hI => lv_istore C.1.1 C.1.2.1 hd hI.1.2 (by rw [← hI.1.1]; exact hl) rfl (fun ls' h' => kk ls' H locs cells slots ⟨mRl.set1 C.2.2.2.1.2.1 hI.1.1 hf h', hI.2⟩)
theorem sn_lstore {k : Nat} {x : Int64} (C : mCtx E D c5 adr vF base d M R p s m args meth c) (hd : decode M.2.1 pc = .ok (.lstore k, 2)) (hf : mfit L k = true) (hl : k + 1 < L.length) (kk : mAt p l e R s m args below meth c Q D c5 adr vF base M h0 (pc + 2) ((L.set k (some (.long x))).set (k + 1) none) S h) : mAt p l e R s m args below meth c Q D c5 adr vF base M h0 pc L (.long x :: S) h := fun ls H locs cells slots hI => lv_lstore C.1.1 C.1.2.1 hd hI.1.2 (by rw [← hI.1.1]; exact hl) rfl (fun ls' h' => kk ls' H locs cells slots ⟨mRl.set2 C.2.2.2.1.2.1 hI.1.1 hf h', hI.2⟩)
theorem sn_astore_n {k : Fin 4} {x : Nat} (C : mCtx E D c5 adr vF base d M R p s m args meth c) (hd : decode M.2.1 pc = .ok (.astore_n k, 1)) (hf : mfit L k = true) (hl : (k : Nat) < L.length) (kk : mAt p l e R s m args below meth c Q D c5 adr vF base M h0 (pc + 1) (L.set k (some (.ref x))) S h) : mAt p l e R s m args below meth c Q D c5 adr vF base M h0 pc L (.ref x :: S) h := fun ls H locs cells slots hI => by
  show W p l e R s m args below meth c H locs cells slots Q (F0 m pc ls (mad adr vF x :: S.map (mlf adr vF)))
  have hv : mad adr vF x = .null ∨ ∃ t, mad adr vF x = .ref t := by
    unfold mad
    cases Nat.beq x 1002
    · exact Or.inr ⟨_, rfl⟩
    · exact C.2.2.2.1.2.1
  have hs : ∀ ls', lv_has ls' M.2.2.1 (((k : Nat), mad adr vF x) :: (mLv adr vF 0 L).filter (fun q => !(q.1 == (k : Nat)) && !(q.1 + 1 == (k : Nat) && q.2.category == 2))) → W p l e R s m args below meth c H locs cells slots Q (F0 m (pc + 1) ls' (S.map (mlf adr vF))) := fun ls' h' => kk ls' H locs cells slots ⟨mRl.set1 C.2.2.2.1.2.1 hI.1.1 hf h', hI.2⟩
  rcases hv with hv | ⟨t, hv⟩
  · rw [hv] at hs ⊢
    exact lv_astore_nN C.1.1 C.1.2.1 hd rfl hI.1.2 (by rw [← hI.1.1]; exact hl) rfl hs
  · rw [hv] at hs ⊢
    exact lv_astore_n C.1.1 C.1.2.1 hd rfl hI.1.2 (by rw [← hI.1.1]; exact hl) rfl hs
theorem sn_astore {k : Nat} {x : Nat} (C : mCtx E D c5 adr vF base d M R p s m args meth c) (hd : decode M.2.1 pc = .ok (.astore k, 2)) (hf : mfit L k = true) (hl : k < L.length) (kk : mAt p l e R s m args below meth c Q D c5 adr vF base M h0 (pc + 2) (L.set k (some (.ref x))) S h) : mAt p l e R s m args below meth c Q D c5 adr vF base M h0 pc L (.ref x :: S) h := fun ls H locs cells slots hI => by
  show W p l e R s m args below meth c H locs cells slots Q (F0 m pc ls (mad adr vF x :: S.map (mlf adr vF)))
  have hv : mad adr vF x = .null ∨ ∃ t, mad adr vF x = .ref t := by
    unfold mad
    cases Nat.beq x 1002
    · exact Or.inr ⟨_, rfl⟩
    · exact C.2.2.2.1.2.1
  have hs : ∀ ls', lv_has ls' M.2.2.1 ((k, mad adr vF x) :: (mLv adr vF 0 L).filter (fun q => !(q.1 == k) && !(q.1 + 1 == k && q.2.category == 2))) → W p l e R s m args below meth c H locs cells slots Q (F0 m (pc + 2) ls' (S.map (mlf adr vF))) := fun ls' h' => kk ls' H locs cells slots ⟨mRl.set1 C.2.2.2.1.2.1 hI.1.1 hf h', hI.2⟩
  rcases hv with hv | ⟨t, hv⟩
  · rw [hv] at hs ⊢
    exact lv_astoreN C.1.1 C.1.2.1 hd hI.1.2 (by rw [← hI.1.1]; exact hl) rfl hs
  · rw [hv] at hs ⊢
    exact lv_astore C.1.1 C.1.2.1 hd hI.1.2 (by rw [← hI.1.1]; exact hl) rfl hs
theorem sn_iinc {k : Nat} {n : Int} {x v : Int32} (C : mCtx E D c5 adr vF base d M R p s m args meth c) (hd : decode M.2.1 pc = .ok (.iinc k n, 3)) (hv : Int32.ofInt n = v) (hk : L[k]? = some (some (.int x))) (hf : mfit L k = true) (hl : k < L.length) (kk : mAt p l e R s m args below meth c Q D c5 adr vF base M h0 (pc + 3) (L.set k (some (.int (x + v)))) S h) : mAt p l e R s m args below meth c Q D c5 adr vF base M h0 pc L S h := fun ls H locs cells slots hI => by
  obtain ⟨j, hj⟩ := List.getElem?_of_mem ((mLv_mem (adr := adr) (vF := vF) L 0 (k, .int x)).mpr ⟨k, .int x, hk, by simp [mlf]⟩)
  subst hv
  exact lv_iinc C.1.1 C.1.2.1 hd hI.1.2 hj rfl (by rw [← hI.1.1]; exact hl) rfl (fun ls' h' => kk ls' H locs cells slots ⟨mRl.set1 C.2.2.2.1.2.1 hI.1.1 hf h', hI.2⟩)
theorem sn_iadd {x y : Int32} (C : mCtx E D c5 adr vF base d M R p s m args meth c) (hd : decode M.2.1 pc = .ok (.iadd, 1)) (k : mAt p l e R s m args below meth c Q D c5 adr vF base M h0 (pc + 1) L (.int (x + y) :: S) h) : mAt p l e R s m args below meth c Q D c5 adr vF base M h0 pc L (.int y :: .int x :: S) h := fun ls H locs cells slots hI => lv_iadd C.1.1 C.1.2.1 hd (k ls H locs cells slots hI)
theorem sn_isub {x y : Int32} (C : mCtx E D c5 adr vF base d M R p s m args meth c) (hd : decode M.2.1 pc = .ok (.isub, 1)) (k : mAt p l e R s m args below meth c Q D c5 adr vF base M h0 (pc + 1) L (.int (x - y) :: S) h) : mAt p l e R s m args below meth c Q D c5 adr vF base M h0 pc L (.int y :: .int x :: S) h := fun ls H locs cells slots hI => lv_isub C.1.1 C.1.2.1 hd (k ls H locs cells slots hI)
theorem sn_imul {x y : Int32} (C : mCtx E D c5 adr vF base d M R p s m args meth c) (hd : decode M.2.1 pc = .ok (.imul, 1)) (k : mAt p l e R s m args below meth c Q D c5 adr vF base M h0 (pc + 1) L (.int (x * y) :: S) h) : mAt p l e R s m args below meth c Q D c5 adr vF base M h0 pc L (.int y :: .int x :: S) h := fun ls H locs cells slots hI => lv_imul C.1.1 C.1.2.1 hd (k ls H locs cells slots hI)
theorem sn_iand {x y : Int32} (C : mCtx E D c5 adr vF base d M R p s m args meth c) (hd : decode M.2.1 pc = .ok (.iand, 1)) (k : mAt p l e R s m args below meth c Q D c5 adr vF base M h0 (pc + 1) L (.int (x &&& y) :: S) h) : mAt p l e R s m args below meth c Q D c5 adr vF base M h0 pc L (.int y :: .int x :: S) h := fun ls H locs cells slots hI => lv_iand C.1.1 C.1.2.1 hd (k ls H locs cells slots hI)
theorem sn_ior {x y : Int32} (C : mCtx E D c5 adr vF base d M R p s m args meth c) (hd : decode M.2.1 pc = .ok (.ior, 1)) (k : mAt p l e R s m args below meth c Q D c5 adr vF base M h0 (pc + 1) L (.int (x ||| y) :: S) h) : mAt p l e R s m args below meth c Q D c5 adr vF base M h0 pc L (.int y :: .int x :: S) h := fun ls H locs cells slots hI => lv_ior C.1.1 C.1.2.1 hd (k ls H locs cells slots hI)
theorem sn_ishl {x y : Int32} (C : mCtx E D c5 adr vF base d M R p s m args meth c) (hd : decode M.2.1 pc = .ok (.ishl, 1)) (k : mAt p l e R s m args below meth c Q D c5 adr vF base M h0 (pc + 1) L (.int (x <<< (y &&& 31)) :: S) h) : mAt p l e R s m args below meth c Q D c5 adr vF base M h0 pc L (.int y :: .int x :: S) h := fun ls H locs cells slots hI => lv_ishl C.1.1 C.1.2.1 hd (k ls H locs cells slots hI)
theorem sn_ishr {x y : Int32} (C : mCtx E D c5 adr vF base d M R p s m args meth c) (hd : decode M.2.1 pc = .ok (.ishr, 1)) (k : mAt p l e R s m args below meth c Q D c5 adr vF base M h0 (pc + 1) L (.int (x >>> (y &&& 31)) :: S) h) : mAt p l e R s m args below meth c Q D c5 adr vF base M h0 pc L (.int y :: .int x :: S) h := fun ls H locs cells slots hI => lv_ishr C.1.1 C.1.2.1 hd (k ls H locs cells slots hI)
theorem sn_ladd {x y : Int64} (C : mCtx E D c5 adr vF base d M R p s m args meth c) (hd : decode M.2.1 pc = .ok (.ladd, 1)) (k : mAt p l e R s m args below meth c Q D c5 adr vF base M h0 (pc + 1) L (.long (x + y) :: S) h) : mAt p l e R s m args below meth c Q D c5 adr vF base M h0 pc L (.long y :: .long x :: S) h := fun ls H locs cells slots hI => lv_ladd C.1.1 C.1.2.1 hd (k ls H locs cells slots hI)
theorem sn_land {x y : Int64} (C : mCtx E D c5 adr vF base d M R p s m args meth c) (hd : decode M.2.1 pc = .ok (.land, 1)) (k : mAt p l e R s m args below meth c Q D c5 adr vF base M h0 (pc + 1) L (.long (x &&& y) :: S) h) : mAt p l e R s m args below meth c Q D c5 adr vF base M h0 pc L (.long y :: .long x :: S) h := fun ls H locs cells slots hI => lv_land C.1.1 C.1.2.1 hd (k ls H locs cells slots hI)
theorem sn_lor {x y : Int64} (C : mCtx E D c5 adr vF base d M R p s m args meth c) (hd : decode M.2.1 pc = .ok (.lor, 1)) (k : mAt p l e R s m args below meth c Q D c5 adr vF base M h0 (pc + 1) L (.long (x ||| y) :: S) h) : mAt p l e R s m args below meth c Q D c5 adr vF base M h0 pc L (.long y :: .long x :: S) h := fun ls H locs cells slots hI => lv_lor C.1.1 C.1.2.1 hd (k ls H locs cells slots hI)
theorem sn_iushr {x y : Int32} (C : mCtx E D c5 adr vF base d M R p s m args meth c) (hd : decode M.2.1 pc = .ok (.iushr, 1)) (k : mAt p l e R s m args below meth c Q D c5 adr vF base M h0 (pc + 1) L (.int (x.toUInt32 >>> (y.toUInt32 &&& Int32.toUInt32 31)).toInt32 :: S) h) : mAt p l e R s m args below meth c Q D c5 adr vF base M h0 pc L (.int y :: .int x :: S) h := fun ls H locs cells slots hI => lv_iushr C.1.1 C.1.2.1 hd rfl (k ls H locs cells slots hI)
theorem sn_lshl {x : Int64} {y : Int32} (C : mCtx E D c5 adr vF base d M R p s m args meth c) (hd : decode M.2.1 pc = .ok (.lshl, 1)) (k : mAt p l e R s m args below meth c Q D c5 adr vF base M h0 (pc + 1) L (.long (x <<< (y.toInt64 &&& 63)) :: S) h) : mAt p l e R s m args below meth c Q D c5 adr vF base M h0 pc L (.int y :: .long x :: S) h := fun ls H locs cells slots hI => lv_lshl C.1.1 C.1.2.1 hd rfl (k ls H locs cells slots hI)
theorem sn_lcmp {x y : Int64} (C : mCtx E D c5 adr vF base d M R p s m args meth c) (hd : decode M.2.1 pc = .ok (.lcmp, 1)) (k : mAt p l e R s m args below meth c Q D c5 adr vF base M h0 (pc + 1) L (.int (lg_cmp x y) :: S) h) : mAt p l e R s m args below meth c Q D c5 adr vF base M h0 pc L (.long y :: .long x :: S) h := fun ls H locs cells slots hI => W.lcmp C.1.1 C.1.2.1 hd (k ls H locs cells slots hI)
theorem sn_ineg {x : Int32} (C : mCtx E D c5 adr vF base d M R p s m args meth c) (hd : decode M.2.1 pc = .ok (.ineg, 1)) (k : mAt p l e R s m args below meth c Q D c5 adr vF base M h0 (pc + 1) L (.int (-x) :: S) h) : mAt p l e R s m args below meth c Q D c5 adr vF base M h0 pc L (.int x :: S) h := fun ls H locs cells slots hI => lv_ineg C.1.1 C.1.2.1 hd (k ls H locs cells slots hI)
theorem sn_i2l {x : Int32} (C : mCtx E D c5 adr vF base d M R p s m args meth c) (hd : decode M.2.1 pc = .ok (.i2l, 1)) (k : mAt p l e R s m args below meth c Q D c5 adr vF base M h0 (pc + 1) L (.long x.toInt64 :: S) h) : mAt p l e R s m args below meth c Q D c5 adr vF base M h0 pc L (.int x :: S) h := fun ls H locs cells slots hI => lv_i2l C.1.1 C.1.2.1 hd rfl (k ls H locs cells slots hI)
theorem sn_l2i {x : Int64} (C : mCtx E D c5 adr vF base d M R p s m args meth c) (hd : decode M.2.1 pc = .ok (.l2i, 1)) (k : mAt p l e R s m args below meth c Q D c5 adr vF base M h0 (pc + 1) L (.int x.toInt32 :: S) h) : mAt p l e R s m args below meth c Q D c5 adr vF base M h0 pc L (.long x :: S) h := fun ls H locs cells slots hI => lv_l2i C.1.1 C.1.2.1 hd rfl (k ls H locs cells slots hI)
theorem sn_i2b {x : Int32} (C : mCtx E D c5 adr vF base d M R p s m args meth c) (hd : decode M.2.1 pc = .ok (.i2b, 1)) (k : mAt p l e R s m args below meth c Q D c5 adr vF base M h0 (pc + 1) L (.int x.toInt8.toInt32 :: S) h) : mAt p l e R s m args below meth c Q D c5 adr vF base M h0 pc L (.int x :: S) h := fun ls H locs cells slots hI => lv_i2b C.1.1 C.1.2.1 hd rfl (k ls H locs cells slots hI)
theorem sn_i2s {x : Int32} (C : mCtx E D c5 adr vF base d M R p s m args meth c) (hd : decode M.2.1 pc = .ok (.i2s, 1)) (k : mAt p l e R s m args below meth c Q D c5 adr vF base M h0 (pc + 1) L (.int x.toInt16.toInt32 :: S) h) : mAt p l e R s m args below meth c Q D c5 adr vF base M h0 pc L (.int x :: S) h := fun ls H locs cells slots hI => lv_i2s C.1.1 C.1.2.1 hd rfl (k ls H locs cells slots hI)
theorem sn_i2c {x : Int32} (C : mCtx E D c5 adr vF base d M R p s m args meth c) (hd : decode M.2.1 pc = .ok (.i2c, 1)) (k : mAt p l e R s m args below meth c Q D c5 adr vF base M h0 (pc + 1) L (.int (x.toUInt32 % 65536).toInt32 :: S) h) : mAt p l e R s m args below meth c Q D c5 adr vF base M h0 pc L (.int x :: S) h := fun ls H locs cells slots hI => lv_i2c C.1.1 C.1.2.1 hd rfl (k ls H locs cells slots hI)
theorem sn_idiv {x y : Int32} (C : mCtx E D c5 adr vF base d M R p s m args meth c) (hd : decode M.2.1 pc = .ok (.idiv, 1)) (hy : ¬ y = 0) (k : mAt p l e R s m args below meth c Q D c5 adr vF base M h0 (pc + 1) L (.int (x / y) :: S) h) : mAt p l e R s m args below meth c Q D c5 adr vF base M h0 pc L (.int y :: .int x :: S) h := fun ls H locs cells slots hI => lv_idiv C.1.1 C.1.2.1 hd hy (k ls H locs cells slots hI)
theorem sn_irem {x y : Int32} (C : mCtx E D c5 adr vF base d M R p s m args meth c) (hd : decode M.2.1 pc = .ok (.irem, 1)) (hy : ¬ y = 0) (k : mAt p l e R s m args below meth c Q D c5 adr vF base M h0 (pc + 1) L (.int (x - x / y * y) :: S) h) : mAt p l e R s m args below meth c Q D c5 adr vF base M h0 pc L (.int y :: .int x :: S) h := fun ls H locs cells slots hI => lv_irem C.1.1 C.1.2.1 hd hy (k ls H locs cells slots hI)
theorem sn_dup {w : Value} (C : mCtx E D c5 adr vF base d M R p s m args meth c) (hd : decode M.2.1 pc = .ok (.dup, 1)) (hc : w.category = 1) (k : mAt p l e R s m args below meth c Q D c5 adr vF base M h0 (pc + 1) L (w :: w :: S) h) : mAt p l e R s m args below meth c Q D c5 adr vF base M h0 pc L (w :: S) h := fun ls H locs cells slots hI => lv_dup C.1.1 C.1.2.1 hd (by rw [mlf_cat C.2.2.2.1.2.1]; exact hc) (k ls H locs cells slots hI)
theorem sn_pop {w : Value} (C : mCtx E D c5 adr vF base d M R p s m args meth c) (hd : decode M.2.1 pc = .ok (.pop, 1)) (hc : w.category = 1) (k : mAt p l e R s m args below meth c Q D c5 adr vF base M h0 (pc + 1) L S h) : mAt p l e R s m args below meth c Q D c5 adr vF base M h0 pc L (w :: S) h := fun ls H locs cells slots hI => lv_pop C.1.1 C.1.2.1 hd (by rw [mlf_cat C.2.2.2.1.2.1]; exact hc) (k ls H locs cells slots hI)
theorem sn_dup2 {w u : Value} (C : mCtx E D c5 adr vF base d M R p s m args meth c) (hd : decode M.2.1 pc = .ok (.dup2, 1)) (hc : w.category = 1) (hc2 : u.category = 1) (k : mAt p l e R s m args below meth c Q D c5 adr vF base M h0 (pc + 1) L (w :: u :: w :: u :: S) h) : mAt p l e R s m args below meth c Q D c5 adr vF base M h0 pc L (w :: u :: S) h := fun ls H locs cells slots hI => lv_dup2_11 C.1.1 C.1.2.1 hd (by rw [mlf_cat C.2.2.2.1.2.1]; exact hc) (by rw [mlf_cat C.2.2.2.1.2.1]; exact hc2) (k ls H locs cells slots hI)
theorem sn_goto {off : Int} {t : Nat} (C : mCtx E D c5 adr vF base d M R p s m args meth c) (hd : decode M.2.1 pc = .ok (.goto off, 3)) (ht : (pc : Int) + off = (t : Int)) (k : mAt p l e R s m args below meth c Q D c5 adr vF base M h0 t L S h) : mAt p l e R s m args below meth c Q D c5 adr vF base M h0 pc L S h := fun ls H locs cells slots hI => lv_goto C.1.1 C.1.2.1 hd ht (k ls H locs cells slots hI)
theorem sn_if {b : ClassFile.Cond} {off : Int} {t : Nat} {x : Int32} (C : mCtx E D c5 adr vF base d M R p s m args meth c) (hd : decode M.2.1 pc = .ok (.ifCond b off, 3)) (ht : (pc : Int) + off = (t : Int)) {Pt Pf : Prop} (hc : mcnd b x 0 Pt Pf) (kt : Pt → mAt p l e R s m args below meth c Q D c5 adr vF base M h0 t L S h) (kf : Pf → mAt p l e R s m args below meth c Q D c5 adr vF base M h0 (pc + 3) L S h) : mAt p l e R s m args below meth c Q D c5 adr vF base M h0 pc L (.int x :: S) h := fun ls H locs cells slots hI => by
  cases b with
  | eq => exact lv_if_eq C.1.1 C.1.2.1 hd ht (fun q => kt (hc.1 q) ls H locs cells slots hI) (fun q => kf (hc.2 q) ls H locs cells slots hI)
  | ne => exact lv_if_ne C.1.1 C.1.2.1 hd ht (fun q => kt (hc.1 q) ls H locs cells slots hI) (fun q => kf (hc.2 q) ls H locs cells slots hI)
  | lt => exact lv_if_lt C.1.1 C.1.2.1 hd ht (fun q => kt (hc.1 q) ls H locs cells slots hI) (fun q => kf (hc.2 q) ls H locs cells slots hI)
  | ge => exact lv_if_ge C.1.1 C.1.2.1 hd ht (fun q => kt (hc.1 q) ls H locs cells slots hI) (fun q => kf (hc.2 q) ls H locs cells slots hI)
  | gt => exact lv_if_gt C.1.1 C.1.2.1 hd ht (fun q => kt (hc.1 q) ls H locs cells slots hI) (fun q => kf (hc.2 q) ls H locs cells slots hI)
  | le => exact lv_if_le C.1.1 C.1.2.1 hd ht (fun q => kt (hc.1 q) ls H locs cells slots hI) (fun q => kf (hc.2 q) ls H locs cells slots hI)
theorem sn_icmp {b : ClassFile.Cond} {off : Int} {t : Nat} {x y : Int32} (C : mCtx E D c5 adr vF base d M R p s m args meth c) (hd : decode M.2.1 pc = .ok (.if_icmp b off, 3)) (ht : (pc : Int) + off = (t : Int)) {Pt Pf : Prop} (hc : mcnd b x y Pt Pf) (kt : Pt → mAt p l e R s m args below meth c Q D c5 adr vF base M h0 t L S h) (kf : Pf → mAt p l e R s m args below meth c Q D c5 adr vF base M h0 (pc + 3) L S h) : mAt p l e R s m args below meth c Q D c5 adr vF base M h0 pc L (.int y :: .int x :: S) h := fun ls H locs cells slots hI => by
  cases b with
  | eq => exact lv_icmp_eq C.1.1 C.1.2.1 hd ht (fun q => kt (hc.1 q) ls H locs cells slots hI) (fun q => kf (hc.2 q) ls H locs cells slots hI)
  | ne => exact lv_icmp_ne C.1.1 C.1.2.1 hd ht (fun q => kt (hc.1 q) ls H locs cells slots hI) (fun q => kf (hc.2 q) ls H locs cells slots hI)
  | lt => exact lv_icmp_lt C.1.1 C.1.2.1 hd ht (fun q => kt (hc.1 q) ls H locs cells slots hI) (fun q => kf (hc.2 q) ls H locs cells slots hI)
  | ge => exact lv_icmp_ge C.1.1 C.1.2.1 hd ht (fun q => kt (hc.1 q) ls H locs cells slots hI) (fun q => kf (hc.2 q) ls H locs cells slots hI)
  | gt => exact lv_icmp_gt C.1.1 C.1.2.1 hd ht (fun q => kt (hc.1 q) ls H locs cells slots hI) (fun q => kf (hc.2 q) ls H locs cells slots hI)
  | le => exact lv_icmp_le C.1.1 C.1.2.1 hd ht (fun q => kt (hc.1 q) ls H locs cells slots hI) (fun q => kf (hc.2 q) ls H locs cells slots hI)
end STEP
