/-! THE MINI MACHINE AND THE MACHINE, 7: every step -/
/-- the tables' words that an instruction asks for -/
def mLk (own : String) (I : MI) : List Cond := match I with
  | (_, i, _, p, q, _, v, _) =>
  match i with
  | .ldc2_w n => [.constantLong own n (Int64.ofNat p)]
  | .ldc n => (match p with
    | 0 => [.constant own n v]
    | _ => [])
  | .ldc_w n => (match p with
    | 0 => [.constant own n v]
    | _ => [])
  | .getfield n => (match Nat.beq p 20 with
    | true => (match q with
      | 0 => [.fieldLink own n "java/lang/String" "value" "[B"]
      | _ => [.fieldLink own n "java/lang/String" "coder" "B"])
    | false => [.fieldLink own n (mT p q).1 (mT p q).2.1 (mT p q).2.2.1])
  | .putfield n => [.fieldLink own n (mT p q).1 (mT p q).2.1 (mT p q).2.2.1]
  | .getstatic n => (match p with
    | 0 => [.fieldLink own n "GlacierStreets" "UNDER" "[I"]
    | 1 => [.fieldLink own n "java/lang/String" "COMPACT_STRINGS" "Z"]
    | _ => [.fieldLink own n "jdk/internal/util/Preconditions" "SIOOBE_FORMATTER" "Ljava/util/function/BiFunction;"])
  | .new n => [.classLink own n (mR p), .instantiable (mR p) (mN p), .initialized (mR p)]
  | .newarray t => [.arrayClass (newarray.typeOf t)]
  | .anewarray n => (match p with
    | 0 => [.classLink own n RX3]
    | _ => [.classLink own n "java/lang/String"])
  | .invokevirtual n => (match mtab[p]? with
    | some M => [.methodLink own n M.1, .instanceMethod M.1, .selects M.1.cls M.1 M.1, .initialized M.1.cls, .code M.1 M.2.1 M.2.2.1 M.2.2.2.1]
    | none => [])
  | .invokestatic n => (match Nat.beq p 900 with
    | true => [.methodLink own n arraycopyName, .native arraycopyName, .static arraycopyName, .initialized "java/lang/System"]
    | false => (match Nat.beq p 902 with
      | true => [.methodLink own n Lib.Math.max.name, .static Lib.Math.max.name, .initialized "java/lang/Math", .code Lib.Math.max.name Lib.Math.max.code 2 (some .int)]
      | false => (match Nat.beq p 903 with
        | true => [.methodLink own n Lib.Math.min.name, .static Lib.Math.min.name, .initialized "java/lang/Math", .code Lib.Math.min.name Lib.Math.min.code 2 (some .int)]
        | false => (match Nat.beq p 904 with
          | true => [.methodLink own n Lib.Math.abs.name, .static Lib.Math.abs.name, .initialized "java/lang/Math", .code Lib.Math.abs.name Lib.Math.abs.code 1 (some .int)]
          | false => (match mtab[p]? with
      | some M => (match decide (v = 1) with
        | true => [.static M.1, .initialized M.1.cls, .code M.1 M.2.1 M.2.2.1 M.2.2.2.1]
        | false => [.methodLink own n M.1, .static M.1, .initialized M.1.cls, .code M.1 M.2.1 M.2.2.1 M.2.2.2.1])
      | none => [])))))
  | .invokespecial n => (match Nat.beq p 901 with
    | true => [.methodLink own n objectInit, .instanceMethod objectInit, .code objectInit ⟨#[0xb1]⟩ 1 none]
    | false => (match mtab[p]? with
      | some M => [.methodLink own n M.1, .instanceMethod M.1, .initialized M.1.cls, .code M.1 M.2.1 M.2.2.1 M.2.2.2.1]
      | none => []))
  | _ => []
def mDs (M : MM) (q : Nat) : Bool := !(M.1.cls == "java/lang/invoke/MethodHandle") && (!(M.1.cls == "java/lang/invoke/VarHandle") && ((parseMethodDescriptor M.1.desc).map (fun d => d.parameters.length) == some q && Nat.ble M.2.2.1 17))
/-- what else must be so of an instruction: lengths, targets, numbers -/
def mSc (own : String) (rt : Option FieldType) (I : MI) : Bool := match I with
  | (pc, i, len, p, q, r, v, ts) =>
  match i with
  | .iconst n => Nat.beq len 1 && decide (Int32.ofInt n = v)
  | .bipush n => Nat.beq len 2 && decide ((Int8.ofInt n).toInt32 = v)
  | .sipush n => Nat.beq len 3 && decide ((Int16.ofInt n).toInt32 = v)
  | .lconst n => Nat.beq len 1 && Nat.beq n p
  | .ldc2_w _ => Nat.beq len 3
  | .ldc n => Nat.beq len 2 && (match p with
    | 0 => true
    | _ => Nat.blt q 30 && ((mSt q).1 == own && Nat.beq (mSt q).2.1 n))
  | .ldc_w n => Nat.beq len 3 && (match p with
    | 0 => true
    | _ => Nat.blt q 30 && ((mSt q).1 == own && Nat.beq (mSt q).2.1 n))
  | .iload _ => Nat.beq len 2
  | .lload _ => Nat.beq len 2
  | .aload _ => Nat.beq len 2
  | .istore _ => Nat.beq len 2
  | .lstore _ => Nat.beq len 2
  | .astore _ => Nat.beq len 2
  | .iinc _ n => Nat.beq len 3 && decide (Int32.ofInt n = v)
  | .goto off => decide ((pc : Int) + off = (p : Int)) && Nat.beq len 3
  | .ifCond _ off => Nat.beq len 3 && decide ((pc : Int) + off = (p : Int))
  | .if_icmp _ off => Nat.beq len 3 && decide ((pc : Int) + off = (p : Int))
  | .tableswitch dflt lo hi offs => decide (lo = (v.toNatClampNeg : Int)) && (decide (v = nI v.toNatClampNeg) && (decide (hi = lo + ts.length - 1) && (Nat.blt (v.toNatClampNeg + ts.length) (2 ^ 31) && (decide (offs.toList.map (fun o => (pc : Int) + o) = ts.map (fun t : Nat => (t : Int))) && decide ((pc : Int) + dflt = (p : Int))))))
  | .lookupswitch dflt ps => (ps.toList.zip (ps.toList.drop 1)).all (fun (a, next) => a.1 < next.1) && (decide (v = nI v.toNatClampNeg) && (decide (ps.toList.map (fun q => q.1) = (List.range ts.length).map (fun j => ((v.toNatClampNeg + j : Nat) : Int))) && (Nat.blt (v.toNatClampNeg + ts.length) (2 ^ 31) && (decide (ps.toList.map (fun q => (pc : Int) + q.2) = ts.map (fun t : Nat => (t : Int))) && decide ((pc : Int) + dflt = (p : Int))))))
  | .aaload => Nat.beq len 1 && Nat.ble p 1
  | .aastore => Nat.beq len 1 && Nat.ble p 1
  | .getfield _ => Nat.beq len 3 && (Nat.beq p 20 || (Nat.ble p 9 && Nat.blt q (mN p)))
  | .putfield _ => Nat.beq len 3 && (Nat.ble p 9 && (Nat.blt q (mN p) && (!(mT p q).2.2.2 || (mRf p q && (mT p q).1 == own))))
  | .getstatic _ => Nat.beq len 3
  | .new _ => Nat.beq len 3
  | .newarray t => Nat.beq len 2 && ((Nat.beq p 0 && decide (t = .int)) || ((Nat.beq p 1 && decide (t = .boolean)) || (Nat.beq p 2 && decide (t = .long))))
  | .anewarray _ => Nat.beq len 3
  | .invokevirtual _ => Nat.beq len 3 && (match mtab[p]? with
    | some M => Nat.beq M.2.2.2.2.1 0 && (Nat.beq M.2.2.2.2.2.1 0 && (mDs M q && ((Nat.ble r 9 && M.1.cls == mR r) || (Nat.beq r 20 && M.1.cls == "java/lang/String"))))
    | none => false)
  | .invokestatic n => Nat.beq len 3 && (match Nat.beq p 900 || (Nat.beq p 902 || (Nat.beq p 903 || Nat.beq p 904)) with
    | true => true
    | false => (match mtab[p]? with
      | some M => Nat.beq M.2.2.2.2.1 0 && (Nat.beq M.2.2.2.2.2.1 0 && (mDs M q && (!(decide (v = 1)) || (own == RX6 && (Nat.beq n 113 && M.1 == yX8_within)))))
      | none => false))
  | .invokespecial _ => Nat.beq len 3 && (match Nat.beq p 901 with
    | true => true
    | false => Nat.ble r 9 && (match mtab[p]? with
      | some M => Nat.beq M.2.2.2.2.1 (ts.getD 0 0) && (Nat.beq M.2.2.2.2.2.1 (ts.getD 1 0) && (mDs M q && (M.2.2.2.1 == none && M.1.name == "<init>")))
      | none => false))
  | .lreturn => Nat.beq len 1 && rt == some .long
  | .return_ => Nat.beq len 1 && rt == none
  | .areturn => Nat.beq len 1 && (match rt with
    | some (.object _) => true
    | _ => false)
  | _ => Nat.beq len 1
def mOk (M : MM) (I : MI) : Prop := decode M.2.1 I.1 = .ok (I.2.1, I.2.2.1) ∧ (∀ w ∈ mLk M.1.cls I, w ∈ mG) ∧ mSc M.1.cls M.2.2.2.1 I = true
theorem mDs_inv {M : MM} {q : Nat} (h : mDs M q = true) : (M.1.cls ≠ "java/lang/invoke/MethodHandle" ∧ M.1.cls ≠ "java/lang/invoke/VarHandle" ∧ (parseMethodDescriptor M.1.desc).map (fun d => d.parameters.length) = some q) ∧ M.2.2.1 ≤ 17 := by
  obtain ⟨h1, h2⟩ := bnd h
  obtain ⟨h2, h3⟩ := bnd h2
  obtain ⟨h3, h4⟩ := bnd h3
  exact ⟨⟨by simpa using h1, by simpa using h2, by simpa using h3⟩, Nat.le_of_ble_eq_true h4⟩
/-- the ends of a body -/
def mRt (p : Program) (l : Launch) (e : Env) (R : Room) (s : State) (m : MethodId) (args : Array Value) (below : List Frame) (meth : Method) (c : Code) (Q : State → Prop) (D : va_G) (c5 : Nat → ClassId) (adr : Nat → Nat) (vF : Value) (base : Nat) (M : MM) (h0 : MH) (K : MK) : Prop := ∀ (ls : Array Slot) (H : Heap) (locs : List Loc) (cells slots : Nat) (L : ML) (h : MH) (pc : Nat), mInv D c5 adr vF base h0 R M.2.2.1 s ls H locs cells slots L h →
  (∀ x : Int32, decode M.2.1 pc = .ok (.ireturn, 1) → mret M.2.2.2.1 x (K (some (.int x)) h) → W p l e R s m args below meth c H locs cells slots Q (F0 m pc ls [.int x])) ∧
  (∀ x : Int64, decode M.2.1 pc = .ok (.lreturn, 1) → M.2.2.2.1 = some .long → K (some (.long x)) h → W p l e R s m args below meth c H locs cells slots Q (F0 m pc ls [.long x])) ∧
  (decode M.2.1 pc = .ok (.return_, 1) → M.2.2.2.1 = none → K none h → (M.1.name = "<init>" → h.1.length = h0.1.length + R.cells ∧ msz h.1 = msz h0.1 + R.slots) → W p l e R s m args below meth c H locs cells slots Q (F0 m pc ls [])) ∧
  (∀ x : Nat, decode M.2.1 pc = .ok (.areturn, 1) → (∃ n, M.2.2.2.1 = some (.object n)) → K (some (.ref x)) h → W p l e R s m args below meth c H locs cells slots Q (F0 m pc ls [mad adr vF x]))
section STP
variable {p : Program} {l : Launch} {e : Env} {R : Room} {s : State} {m : MethodId} {args : Array Value} {below : List Frame} {meth : Method} {c : Code} {Q : State → Prop} {E : ME} {D : va_G} {c5 : Nat → ClassId} {adr : Nat → Nat} {vF : Value} {base d : Nat} {M : MM} {h0 : MH} {L : ML} {S : List Value} {h : MH}
theorem mlen {a : Nat} {q : Nat × Nat × List (Option Nat)} {ls : Array Slot} {H : Heap} {locs : List Loc} {cells slots : Nat} (hI : mInv D c5 adr vF base h0 R M.2.2.1 s ls H locs cells slots L h) (hq : h.1[a]? = some q) : Nat.ble a 999 = true := by
  have := (List.getElem?_eq_some_iff.mp hq).1
  have := hI.2.1.1.2
  exact Nat.ble_eq_true_of_le (by omega)
/-- it suffices to look where the heap is of the mini heap's size -/
theorem mAt_if {pc : Nat} (k : h.1.length ≤ 1000 → mAt p l e R s m args below meth c Q D c5 adr vF base M h0 pc L S h) : mAt p l e R s m args below meth c Q D c5 adr vF base M h0 pc L S h := fun ls H locs cells slots hI => k hI.2.1.1.2 ls H locs cells slots hI
theorem mlow9 {a : Nat} {q : Nat × Nat × List (Option Nat)} (h9 : h.1.length ≤ 1000) (hq : h.1[a]? = some q) : Nat.ble a 999 = true := by
  have := (List.getElem?_eq_some_iff.mp hq).1
  exact Nat.ble_eq_true_of_le (by omega)
theorem nbe {a b : Nat} (h : Nat.beq a b = true) : a = b := Nat.eq_of_beq_eq_true h
theorem mget_inv {kd a : Nat} {f : Nat → (Nat → Int32) → Prop} (hg : mget E kd h a f) : (Nat.ble a 999 = true ∧ ∃ n rs, h.1[a]? = some (kd, n, rs) ∧ f n (h.2.1 a)) ∨ (Nat.ble a 999 = false ∧ ∃ n g, mRo E a = some (kd, n, g) ∧ f n g) := by
  unfold mget at hg
  split at hg
  · rename_i h1
    split at hg
    · rename_i q hq
      split at hg
      · rename_i h2
        have := nbe h2
        exact Or.inl ⟨h1, q.2.1, q.2.2, by rw [hq, ← this], hg⟩
      · exact hg.elim
    · exact hg.elim
  · rename_i h1
    split at hg
    · rename_i q hq
      split at hg
      · rename_i h2
        have := nbe h2
        exact Or.inr ⟨h1, q.2.1, q.2.2, by rw [hq, ← this], hg⟩
      · exact hg.elim
    · exact hg.elim
set_option maxHeartbeats 4000000 in
theorem mstp_sound {I : MI} {K : MK} {nx : MN} {jm : Nat → MN} (C : mCtx E D c5 adr vF base d M R p s m args meth c) (hok : mOk M I) (hret : mRt p l e R s m args below meth c Q D c5 adr vF base M h0 K) (hnx : ∀ L S h, nx L S h → mAt p l e R s m args below meth c Q D c5 adr vF base M h0 (I.1 + I.2.2.1) L S h) (hjm : ∀ t L S h, jm t L S h → mAt p l e R s m args below meth c Q D c5 adr vF base M h0 t L S h) (hs : mstp E d (h0.1.length + R.cells, msz h0.1 + R.slots) M.2.2.2.1 (decide (M.1.name = "<init>")) (mCls E d) K I nx jm L S h) : mAt p l e R s m args below meth c Q D c5 adr vF base M h0 I.1 L S h := by
  obtain ⟨pc, i, len, p9, q9, r9, v9, ts⟩ := I
  obtain ⟨hd, hw, hc⟩ := hok
  dsimp only at hd hnx ⊢
  refine mAt_if (fun hlen => ?_)
  cases i with
  | iconst n =>
    obtain ⟨c1, c2⟩ := bnd hc
    cases nbe c1
    exact sn_iconst C hd (of_decide_eq_true c2) (hnx _ _ _ hs)
  | bipush n =>
    obtain ⟨c1, c2⟩ := bnd hc
    cases nbe c1
    exact sn_bipush C hd (of_decide_eq_true c2) (hnx _ _ _ hs)
  | sipush n =>
    obtain ⟨c1, c2⟩ := bnd hc
    cases nbe c1
    exact sn_sipush C hd (of_decide_eq_true c2) (hnx _ _ _ hs)
  | lconst n =>
    obtain ⟨c1, c2⟩ := bnd hc
    cases nbe c1
    exact sn_lconst C hd (by rw [nbe c2]) (hnx _ _ _ hs)
  | ldc2_w n =>
    cases nbe hc
    exact sn_ldc2 C hd (hw _ List.mem_cons_self) (hnx _ _ _ hs)
  | ldc n =>
    obtain ⟨c1, c2⟩ := bnd hc
    cases nbe c1
    cases p9 with
    | zero => exact sn_ldc C hd (hw _ List.mem_cons_self) (hnx _ _ _ hs)
    | succ p9 =>
      obtain ⟨c2, c3⟩ := bnd c2
      obtain ⟨c3, c4⟩ := bnd c3
      exact sn_ldcS C hd (Nat.le_of_ble_eq_true c2) (by simpa using c3) (nbe c4) (hnx _ _ _ hs)
  | ldc_w n =>
    obtain ⟨c1, c2⟩ := bnd hc
    cases nbe c1
    cases p9 with
    | zero => exact sn_ldcw C hd (hw _ List.mem_cons_self) (hnx _ _ _ hs)
    | succ p9 =>
      obtain ⟨c2, c3⟩ := bnd c2
      obtain ⟨c3, c4⟩ := bnd c3
      exact sn_ldcwS C hd (Nat.le_of_ble_eq_true c2) (by simpa using c3) (nbe c4) (hnx _ _ _ hs)
  | iload_n k =>
    cases nbe hc
    obtain ⟨w, h1, h2⟩ := mlg_inv hs
    obtain ⟨x, rfl, h2⟩ := mvi_inv h2
    exact sn_iload_n C hd h1 (hnx _ _ _ h2)
  | iload k =>
    cases nbe hc
    obtain ⟨w, h1, h2⟩ := mlg_inv hs
    obtain ⟨x, rfl, h2⟩ := mvi_inv h2
    exact sn_iload C hd h1 (hnx _ _ _ h2)
  | lload_n k =>
    cases nbe hc
    obtain ⟨w, h1, h2⟩ := mlg_inv hs
    obtain ⟨x, rfl, h2⟩ := mvl_inv h2
    exact sn_lload_n C hd h1 (hnx _ _ _ h2)
  | lload k =>
    cases nbe hc
    obtain ⟨w, h1, h2⟩ := mlg_inv hs
    obtain ⟨x, rfl, h2⟩ := mvl_inv h2
    exact sn_lload C hd h1 (hnx _ _ _ h2)
  | aload_n k =>
    cases nbe hc
    obtain ⟨w, h1, h2⟩ := mlg_inv hs
    obtain ⟨x, rfl, h2⟩ := mva_inv h2
    exact sn_aload_n C hd h1 (hnx _ _ _ h2)
  | aload k =>
    cases nbe hc
    obtain ⟨w, h1, h2⟩ := mlg_inv hs
    obtain ⟨x, rfl, h2⟩ := mva_inv h2
    exact sn_aload C hd h1 (hnx _ _ _ h2)
  | istore_n k =>
    cases nbe hc
    obtain ⟨x, S', rfl, h2⟩ := m1i_inv hs
    obtain ⟨h3, h4, h5⟩ := ms1_inv h2
    exact sn_istore_n C hd h3 h4 (hnx _ _ _ h5)
  | istore k =>
    cases nbe hc
    obtain ⟨x, S', rfl, h2⟩ := m1i_inv hs
    obtain ⟨h3, h4, h5⟩ := ms1_inv h2
    exact sn_istore C hd h3 h4 (hnx _ _ _ h5)
  | lstore k =>
    cases nbe hc
    obtain ⟨x, S', rfl, h2⟩ := m1l_inv hs
    obtain ⟨h3, h4, h5⟩ := ms2_inv h2
    exact sn_lstore C hd h3 h4 (hnx _ _ _ h5)
  | astore_n k =>
    cases nbe hc
    obtain ⟨x, S', rfl, h2⟩ := m1a_inv hs
    obtain ⟨h3, h4, h5⟩ := ms1_inv h2
    exact sn_astore_n C hd h3 h4 (hnx _ _ _ h5)
  | astore k =>
    cases nbe hc
    obtain ⟨x, S', rfl, h2⟩ := m1a_inv hs
    obtain ⟨h3, h4, h5⟩ := ms1_inv h2
    exact sn_astore C hd h3 h4 (hnx _ _ _ h5)
  | iinc k n =>
    obtain ⟨c1, c2⟩ := bnd hc
    cases nbe c1
    obtain ⟨w, h1, h2⟩ := mlg_inv hs
    obtain ⟨x, rfl, g2⟩ := mvi_inv h2
    obtain ⟨h3, h4, h5⟩ := ms1_inv g2
    exact sn_iinc C hd (of_decide_eq_true c2) h1 h3 h4 (hnx _ _ _ h5)
  | iadd =>
    cases nbe hc
    obtain ⟨x, y, S1, rfl, h2⟩ := m2i_inv hs
    exact sn_iadd C hd (hnx _ _ _ h2)
  | isub =>
    cases nbe hc
    obtain ⟨x, y, S1, rfl, h2⟩ := m2i_inv hs
    exact sn_isub C hd (hnx _ _ _ h2)
  | imul =>
    cases nbe hc
    obtain ⟨x, y, S1, rfl, h2⟩ := m2i_inv hs
    exact sn_imul C hd (hnx _ _ _ h2)
  | iand =>
    cases nbe hc
    obtain ⟨x, y, S1, rfl, h2⟩ := m2i_inv hs
    exact sn_iand C hd (hnx _ _ _ h2)
  | ior =>
    cases nbe hc
    obtain ⟨x, y, S1, rfl, h2⟩ := m2i_inv hs
    exact sn_ior C hd (hnx _ _ _ h2)
  | ishl =>
    cases nbe hc
    obtain ⟨x, y, S1, rfl, h2⟩ := m2i_inv hs
    exact sn_ishl C hd (hnx _ _ _ h2)
  | ishr =>
    cases nbe hc
    obtain ⟨x, y, S1, rfl, h2⟩ := m2i_inv hs
    exact sn_ishr C hd (hnx _ _ _ h2)
  | iushr =>
    cases nbe hc
    obtain ⟨x, y, S1, rfl, h2⟩ := m2i_inv hs
    exact sn_iushr C hd (hnx _ _ _ h2)
  | ladd =>
    cases nbe hc
    obtain ⟨x, y, S1, rfl, h2⟩ := m2l_inv hs
    exact sn_ladd C hd (hnx _ _ _ h2)
  | land =>
    cases nbe hc
    obtain ⟨x, y, S1, rfl, h2⟩ := m2l_inv hs
    exact sn_land C hd (hnx _ _ _ h2)
  | lor =>
    cases nbe hc
    obtain ⟨x, y, S1, rfl, h2⟩ := m2l_inv hs
    exact sn_lor C hd (hnx _ _ _ h2)
  | lcmp =>
    cases nbe hc
    obtain ⟨x, y, S1, rfl, h2⟩ := m2l_inv hs
    exact sn_lcmp C hd (hnx _ _ _ h2)
  | lshl =>
    cases nbe hc
    obtain ⟨x, y, S1, rfl, h2⟩ := mil_inv hs
    exact sn_lshl C hd (hnx _ _ _ h2)
  | ineg =>
    cases nbe hc
    obtain ⟨x, S1, rfl, h2⟩ := m1i_inv hs
    exact sn_ineg C hd (hnx _ _ _ h2)
  | i2l =>
    cases nbe hc
    obtain ⟨x, S1, rfl, h2⟩ := m1i_inv hs
    exact sn_i2l C hd (hnx _ _ _ h2)
  | i2b =>
    cases nbe hc
    obtain ⟨x, S1, rfl, h2⟩ := m1i_inv hs
    exact sn_i2b C hd (hnx _ _ _ h2)
  | i2s =>
    cases nbe hc
    obtain ⟨x, S1, rfl, h2⟩ := m1i_inv hs
    exact sn_i2s C hd (hnx _ _ _ h2)
  | i2c =>
    cases nbe hc
    obtain ⟨x, S1, rfl, h2⟩ := m1i_inv hs
    exact sn_i2c C hd (hnx _ _ _ h2)
  | l2i =>
    cases nbe hc
    obtain ⟨x, S1, rfl, h2⟩ := m1l_inv hs
    exact sn_l2i C hd (hnx _ _ _ h2)
  | idiv =>
    cases nbe hc
    obtain ⟨x, y, S', rfl, h1, h2⟩ := m2i_inv hs
    exact sn_idiv C hd h1 (hnx _ _ _ h2)
  | irem =>
    cases nbe hc
    obtain ⟨x, y, S', rfl, h1, h2⟩ := m2i_inv hs
    exact sn_irem C hd h1 (hnx _ _ _ h2)
  | dup =>
    cases nbe hc
    cases S with
    | nil => exact False.elim hs
    | cons w S =>
      obtain ⟨h1, h2⟩ := mif_inv hs
      exact sn_dup C hd (nbe h1) (hnx _ _ _ h2)
  | dup2 =>
    cases nbe hc
    cases S with
    | nil => exact False.elim hs
    | cons w S =>
      cases S with
      | nil => exact False.elim hs
      | cons u S =>
        obtain ⟨h1, h2⟩ := mif_inv hs
        obtain ⟨h1, h3⟩ := bnd h1
        exact sn_dup2 C hd (nbe h1) (nbe h3) (hnx _ _ _ h2)
  | pop =>
    cases nbe hc
    cases S with
    | nil => exact False.elim hs
    | cons w S =>
      obtain ⟨h1, h2⟩ := mif_inv hs
      exact sn_pop C hd (nbe h1) (hnx _ _ _ h2)
  | goto off =>
    obtain ⟨c1, c2⟩ := bnd hc
    cases nbe c2
    exact sn_goto C hd (of_decide_eq_true c1) (hjm _ _ _ _ hs)
  | ifCond b off =>
    obtain ⟨c1, c2⟩ := bnd hc
    cases nbe c1
    obtain ⟨x, S', rfl, h2⟩ := m1i_inv hs
    exact sn_if C hd (of_decide_eq_true c2) h2 (hjm _ _ _ _) (hnx _ _ _)
  | if_icmp b off =>
    obtain ⟨c1, c2⟩ := bnd hc
    cases nbe c1
    obtain ⟨x, y, S', rfl, h2⟩ := m2i_inv hs
    exact sn_icmp C hd (of_decide_eq_true c2) h2 (hjm _ _ _ _) (hnx _ _ _)
  | tableswitch dflt lo hi offs =>
    obtain ⟨x, S', rfl, h2⟩ := m1i_inv hs
    obtain ⟨c1, c2⟩ := bnd hc
    obtain ⟨c2, c3⟩ := bnd c2
    obtain ⟨c3, c4⟩ := bnd c3
    obtain ⟨c4, c5⟩ := bnd c4
    obtain ⟨c5, c6⟩ := bnd c5
    rw [of_decide_eq_true c2] at h2
    exact sn_tsw C hd (of_decide_eq_true c1) (of_decide_eq_true c3) (Nat.le_of_ble_eq_true c4) (of_decide_eq_true c5) (of_decide_eq_true c6) h2 (fun t ht => hjm t _ _ _ ht)
  | lookupswitch dflt ps =>
    obtain ⟨x, S', rfl, h2⟩ := m1i_inv hs
    obtain ⟨c1, c2⟩ := bnd hc
    obtain ⟨c2, c3⟩ := bnd c2
    obtain ⟨c3, c4⟩ := bnd c3
    obtain ⟨c4, c5⟩ := bnd c4
    obtain ⟨c5, c6⟩ := bnd c5
    rw [of_decide_eq_true c2] at h2
    exact sn_lsw C hd c1 (of_decide_eq_true c3) (Nat.le_of_ble_eq_true c4) (of_decide_eq_true c5) (of_decide_eq_true c6) h2 (fun t ht => hjm t _ _ _ ht)
  | iaload =>
    cases nbe hc
    obtain ⟨a, i, S', rfl, h2⟩ := mia_inv hs
    rcases mget_inv h2 with ⟨h1, n, rs, h3, h4, h5⟩ | ⟨h1, n, g, h3, h4, h5⟩
    · exact sn_iald C hd h1 h3 h4 (hnx _ _ _ h5)
    · exact sn_tld C hd h1 h3 h4 (hnx _ _ _ h5)
  | baload =>
    cases nbe hc
    obtain ⟨a, i, S', rfl, h2⟩ := mia_inv hs
    split at h2
    · rename_i h0
      rcases mget_inv h2 with ⟨h1, n, rs, h3, h4, h5⟩ | ⟨h1, n, g, h3, h4, h5⟩
      · exact sn_zald C hd h1 h3 h4 (hnx _ _ _ h5)
      · rw [h1] at h0
        cases h0
    · rename_i h0
      rcases mget_inv h2 with ⟨h1, n, rs, h3, h4, h5⟩ | ⟨h1, n, g, h3, h4, h5⟩
      · rw [h1] at h0
        cases h0
      · exact sn_bld C hd h3 h4 (hnx _ _ _ h5)
  | laload =>
    cases nbe hc
    obtain ⟨a, i, S', rfl, h2⟩ := mia_inv hs
    obtain ⟨n, rs, h3, h4, h5⟩ := mcell_inv h2
    exact sn_lald C hd (mlow9 hlen h3) h3 h4 (hnx _ _ _ h5)
  | aaload =>
    obtain ⟨c1, c2⟩ := bnd hc
    cases nbe c1
    obtain ⟨a, i, S', rfl, h2⟩ := mia_inv hs
    obtain ⟨n, rs, h3, h4, h5⟩ := mcell_inv h2
    obtain ⟨r, h6, h7⟩ := mref_inv h5
    obtain ⟨h8, h7⟩ := mif_inv h7
    exact sn_aald C hd (mlow9 hlen h3) (Nat.le_of_ble_eq_true c2) h3 h4 h6 (by simpa using h8) (hnx _ _ _ h7)
  | iastore =>
    cases nbe hc
    obtain ⟨x, S', rfl, h2⟩ := m1i_inv hs
    obtain ⟨a, i, S', rfl, g2⟩ := mia_inv h2
    obtain ⟨n, rs, h3, h4, h5⟩ := mcell_inv g2
    exact sn_iast C hd (mlow9 hlen h3) h3 h4 (hnx _ _ _ h5)
  | bastore =>
    cases nbe hc
    obtain ⟨x, S', rfl, h2⟩ := m1i_inv hs
    obtain ⟨a, i, S', rfl, g2⟩ := mia_inv h2
    obtain ⟨n, rs, h3, h4, h5⟩ := mcell_inv g2
    exact sn_zast C hd (mlow9 hlen h3) h3 h4 (hnx _ _ _ h5)
  | lastore =>
    cases nbe hc
    obtain ⟨x, S', rfl, h2⟩ := m1l_inv hs
    obtain ⟨a, i, S', rfl, g2⟩ := mia_inv h2
    obtain ⟨n, rs, h3, h4, h5⟩ := mcell_inv g2
    exact sn_last C hd (mlow9 hlen h3) h3 h4 (hnx _ _ _ h5)
  | aastore =>
    obtain ⟨c1, c2⟩ := bnd hc
    cases nbe c1
    obtain ⟨x, S', rfl, h2⟩ := m1a_inv hs
    obtain ⟨a, i, S', rfl, g2⟩ := mia_inv h2
    obtain ⟨n, rs, h3, h4, h5⟩ := mcell_inv g2
    obtain ⟨h6, h7⟩ := mif_inv h5
    obtain ⟨h6, h8⟩ := bnd h6
    refine sn_aast C hd (mlow9 hlen h3) h3 h4 (Nat.le_of_ble_eq_true h6) ?_ (hnx _ _ _ h7)
    cases p9 with
    | zero =>
      obtain ⟨g1, g2⟩ := bnd h8
      unfold mrcv at g2
      rw [g1] at g2
      cases hq : h.1[x]? with
      | none => simp [hq] at g2
      | some q =>
        simp only [hq, cond_true] at g2
        obtain ⟨g2, -⟩ := bnd g2
        obtain ⟨q1, q2, q3⟩ := q
        have := nbe g2
        dsimp only at this
        subst this
        exact Or.inl ⟨rfl, g1, q2, q3, rfl⟩
    | succ p9 =>
      obtain ⟨g1, g2⟩ := bnd h8
      obtain ⟨g2, g3⟩ := bnd g2
      exact Or.inr ⟨nbe g1, Nat.le_of_ble_eq_true g2, Nat.le_of_ble_eq_true g3⟩
  | arraylength =>
    cases nbe hc
    obtain ⟨a, S', rfl, h2⟩ := m1a_inv hs
    split at h2
    · rename_i h1
      split at h2
      · rename_i q hq
        obtain ⟨h3, h4⟩ := mif_inv h2
        exact sn_alen C hd h1 (Nat.le_of_ble_eq_true h3) hq (hnx _ _ _ h4)
      · exact h2.elim
    · rename_i h1
      split at h2
      · rename_i q hq
        exact sn_tlen C hd h1 hq (hnx _ _ _ h2)
      · exact h2.elim
  | getfield n =>
    obtain ⟨c1, c2⟩ := bnd hc
    cases nbe c1
    obtain ⟨a, S', rfl, h2⟩ := m1a_inv hs
    unfold mfld at h2
    split at h2
    · rename_i h1
      obtain ⟨n2, rs, h3, h4⟩ := mcell_inv h2
      obtain ⟨h5, h6⟩ := mif_inv h4
      obtain ⟨h5, h7⟩ := bnd h5
      have hp9 := Nat.le_of_ble_eq_true h7
      have hp20 : Nat.beq p9 20 = false := nbq (by omega)
      rw [hp20] at c2
      obtain ⟨c2, c3⟩ := bnd (by simpa using c2 : (Nat.ble p9 9 && Nat.blt q9 (mN p9)) = true)
      have hw1 := hw (Cond.fieldLink M.1.cls n (mT p9 q9).1 (mT p9 q9).2.1 (mT p9 q9).2.2.1) (by simp [mLk, hp20])
      split at h6
      · rename_i hr
        obtain ⟨r, h8, h9⟩ := mref_inv h6
        obtain ⟨g8, h9⟩ := mif_inv h9
        have g8 : Nat.beq r 1002 = false := by simpa using g8
        refine sn_get C hd h1 hp9 (Nat.le_of_ble_eq_true c3) hw1 h3 (Nat.le_of_ble_eq_true h5) (w := .ref r) ?_ (hnx _ _ _ h9)
        show mad adr vF r = _
        rw [mad_ref g8]
        unfold mFv
        rw [hr, h8]
        rfl
      · rename_i hr
        refine sn_get C hd h1 hp9 (Nat.le_of_ble_eq_true c3) hw1 h3 (Nat.le_of_ble_eq_true h5) (w := .int (h.2.1 a q9)) ?_ (hnx _ _ _ h6)
        simp [mFv, hr, mlf]
    · rename_i h1
      obtain ⟨h3, h4⟩ := mif_inv h2
      obtain ⟨h3, h5⟩ := bnd h3
      obtain ⟨h5, h6⟩ := bnd h5
      cases q9 with
      | zero =>
        have hw1 := hw (Cond.fieldLink M.1.cls n "java/lang/String" "value" "[B") (by simp [mLk, h3])
        exact sn_getS (k := 0) C hd (Nat.le_of_ble_eq_true h5) (Nat.le_of_ble_eq_true h6) hw1 (Or.inl ⟨rfl, rfl, rfl⟩) (hnx _ _ _ h4)
      | succ q9 =>
        have hw1 := hw (Cond.fieldLink M.1.cls n "java/lang/String" "coder" "B") (by simp [mLk, h3])
        exact sn_getS (k := 0) C hd (Nat.le_of_ble_eq_true h5) (Nat.le_of_ble_eq_true h6) hw1 (Or.inr ⟨rfl, rfl, rfl⟩) (hnx _ _ _ h4)
  | putfield n =>
    obtain ⟨c1, c2⟩ := bnd hc
    cases nbe c1
    obtain ⟨c2, c3⟩ := bnd c2
    obtain ⟨c3, c4⟩ := bnd c3
    have hp9 := Nat.le_of_ble_eq_true c2
    have hk9 : q9 < mN p9 := Nat.le_of_ble_eq_true c3
    have hw1 := hw _ List.mem_cons_self
    obtain ⟨w, a, S', rfl, h2⟩ : ∃ w a S', S = w :: .ref a :: S' ∧ mput (decide (M.1.name = "<init>")) h a p9 q9 w (fun h => nx L S' h) := by
      cases S with
      | nil => exact False.elim hs
      | cons w S =>
        cases S with
        | nil => exact False.elim hs
        | cons u S =>
          cases u with
          | ref a => exact ⟨w, a, S, rfl, hs⟩
          | _ => exact False.elim hs
    unfold mput at h2
    obtain ⟨h1, h2⟩ := mif_inv h2
    obtain ⟨n2, rs, h3, h4⟩ := mcell_inv h2
    obtain ⟨h5, h6⟩ := mif_inv h4
    obtain ⟨h5, h7⟩ := bnd h5
    obtain ⟨-, h8⟩ := bnd h7
    split at h6
    · rename_i hr
      obtain ⟨r, rfl, h9⟩ := mva_inv h6
      obtain ⟨g1, g2⟩ := mif_inv h9
      obtain ⟨g1, g3⟩ := bnd g1
      refine sn_putR C hd h1 g1 hp9 hk9 hw1 h3 (Nat.le_of_ble_eq_true h5) (Nat.le_of_ble_eq_true g3) hr (fun hf => ?_) (hnx _ _ _ g2)
      rw [hf] at h8 c4
      exact ⟨by simpa using h8, by simpa [hr] using c4⟩
    · rename_i hr
      obtain ⟨x, rfl, h9⟩ := mvi_inv h6
      have hfin : (mT p9 q9).2.2.2 = false := by
        cases hf : (mT p9 q9).2.2.2 with
        | false => rfl
        | true => simp [hf, hr] at c4
      have hty := (mFt_ok p9 hp9 q9 hk9).2 hr
      split at h9
      · rename_i hb
        rw [hb] at hty
        obtain ⟨g1, g2, g3⟩ := h9
        exact sn_putA C hd h1 hp9 hk9 hw1 h3 (Nat.le_of_ble_eq_true h5) hr hfin (by rw [hty]; exact ⟨g1, g2⟩) (hnx _ _ _ g3)
      · rename_i hb
        rw [hb] at hty
        exact sn_putA C hd h1 hp9 hk9 hw1 h3 (Nat.le_of_ble_eq_true h5) hr hfin (by rw [hty]; exact ⟨rfl, rfl⟩) (hnx _ _ _ h9)
  | getstatic n =>
    cases nbe hc
    match p9, hw, hs with
    | 0, hw, hs => exact sn_gets (k := 0) C hd (hw _ List.mem_cons_self) (Or.inl ⟨rfl, rfl, rfl, rfl⟩) (hnx _ _ _ hs)
    | 1, hw, hs => exact sn_gets (k := 0) C hd (hw _ List.mem_cons_self) (Or.inr (Or.inl ⟨rfl, rfl, rfl, rfl⟩)) (hnx _ _ _ hs)
    | p9 + 2, hw, hs => exact sn_gets (k := 0) C hd (hw _ List.mem_cons_self) (Or.inr (Or.inr ⟨rfl, rfl, rfl, rfl⟩)) (hnx _ _ _ hs)
  | new n =>
    cases nbe hc
    obtain ⟨h1, h2⟩ := mif_inv hs
    obtain ⟨h1, h3⟩ := bnd h1
    obtain ⟨h3, h4⟩ := bnd h3
    obtain ⟨h4, h5⟩ := bnd h4
    exact sn_new C hd (Nat.le_of_ble_eq_true h1) (hw _ List.mem_cons_self) (hw _ (List.mem_cons_of_mem _ List.mem_cons_self)) (hw _ (List.mem_cons_of_mem _ (List.mem_cons_of_mem _ List.mem_cons_self))) (Nat.le_of_ble_eq_true h3) (Nat.le_of_ble_eq_true h4) (Nat.le_of_ble_eq_true h5) (hnx _ _ _ h2)
  | newarray t =>
    obtain ⟨c1, c2⟩ := bnd hc
    cases nbe c1
    obtain ⟨x, S', rfl, h0, h2⟩ := m1i_inv hs
    obtain ⟨h1, h2⟩ := mif_inv h2
    obtain ⟨h1, h3⟩ := bnd h1
    obtain ⟨h3, h4⟩ := bnd h3
    obtain ⟨h4, h5⟩ := bnd h4
    obtain ⟨h5, h6⟩ := bnd h5
    refine sn_newa C hd ?_ (hw _ List.mem_cons_self) h0 (Nat.le_of_ble_eq_true h3) (Nat.le_of_ble_eq_true h4) (Nat.le_of_ble_eq_true h5) (Nat.le_of_ble_eq_true h6) (hnx _ _ _ h2)
    simpa [Nat.beq_eq] using c2
  | anewarray n =>
    cases nbe hc
    obtain ⟨x, S', rfl, h0, h2⟩ := m1i_inv hs
    obtain ⟨h1, h2⟩ := mif_inv h2
    obtain ⟨h1, h3⟩ := bnd h1
    obtain ⟨h3, h4⟩ := bnd h3
    obtain ⟨h4, h5⟩ := bnd h4
    obtain ⟨h5, h6⟩ := bnd h5
    have h1 := Nat.le_of_ble_eq_true h1
    match p9, hw, h2, h1 with
    | 0, hw, h2, h1 => exact sn_anew C hd (Or.inl ⟨rfl, rfl⟩) (hw _ List.mem_cons_self) h0 (Nat.le_of_ble_eq_true h3) (Nat.le_of_ble_eq_true h4) (Nat.le_of_ble_eq_true h5) (Nat.le_of_ble_eq_true h6) (hnx _ _ _ h2)
    | 1, hw, h2, h1 => exact sn_anew C hd (Or.inr ⟨rfl, rfl⟩) (hw _ List.mem_cons_self) h0 (Nat.le_of_ble_eq_true h3) (Nat.le_of_ble_eq_true h4) (Nat.le_of_ble_eq_true h5) (Nat.le_of_ble_eq_true h6) (hnx _ _ _ h2)
    | p9 + 2, hw, h2, h1 => omega
  | invokevirtual n =>
    obtain ⟨c1, c2⟩ := bnd hc
    cases nbe c1
    obtain ⟨as, S1, rfl, h1, h2⟩ := mpops_inv _ _ _ _ hs
    obtain ⟨a, S', rfl, h2⟩ := m1a_inv h2
    obtain ⟨h3, h4⟩ := mif_inv h2
    obtain ⟨h3, h5⟩ := bnd h3
    rw [List.append_nil] at h4
    cases hz : mtab[p9]? with
    | none => simp [hz] at c2
    | some M' =>
      simp only [hz] at c2
      obtain ⟨c2, c3⟩ := bnd c2
      obtain ⟨c3, c4⟩ := bnd c3
      obtain ⟨c4, c5⟩ := bnd c4
      obtain ⟨d1, d2⟩ := mDs_inv c4
      have hw' : ∀ w ∈ ([.methodLink M.1.cls n M'.1, .instanceMethod M'.1, .selects M'.1.cls M'.1 M'.1, .initialized M'.1.cls, .code M'.1 M'.2.1 M'.2.2.1 M'.2.2.2.1] : List Cond), w ∈ mG := by simpa only [mLk, hz] using hw
      refine sn_callV C hd hz ⟨nbe c2, nbe c3⟩ d2 h1 (hw' _ (by simp)) (hw' _ (by simp)) (hw' _ (by simp)) (hw' _ (by simp)) (hw' _ (by simp)) d1 (ci := r9) ?_ h3 (Nat.le_of_ble_eq_true h5) h4 (fun r h' hk => ?_)
      · rcases (Bool.or_eq_true _ _).mp c5 with c5 | c5
        · obtain ⟨g1, g2⟩ := bnd c5
          exact Or.inl ⟨Nat.le_of_ble_eq_true g1, by simpa using g2⟩
        · obtain ⟨g1, g2⟩ := bnd c5
          exact Or.inr ⟨nbe g1, by simpa using g2⟩
      · cases r <;> exact hnx _ _ _ hk
  | invokestatic n =>
    obtain ⟨c1, c2⟩ := bnd hc
    cases nbe c1
    cases h900 : Nat.beq p9 900 with
    | true =>
      have hw' : ∀ w ∈ ([.methodLink M.1.cls n arraycopyName, .native arraycopyName, .static arraycopyName, .initialized "java/lang/System"] : List Cond), w ∈ mG := by simpa only [mLk, h900] using hw
      simp only [mstp, h900] at hs
      split at hs
      · rename_i n5 dp b sp a S'
        obtain ⟨h1, h2⟩ := mif_inv hs
        obtain ⟨h1, h3⟩ := bnd h1
        split at h2
        · obtain ⟨na, ra, g1, g2⟩ := mcell_inv h2
          obtain ⟨nb, rb, g3, g4, g5, g6, g7, g8, g9⟩ := mcell_inv g2
          exact sn_copyi C hd (hw' _ (by simp)) (hw' _ (by simp)) (hw' _ (by simp)) (hw' _ (by simp)) (Nat.le_of_ble_eq_true h1) (Nat.le_of_ble_eq_true h3) (mlow9 hlen g1) (mlow9 hlen g3) g1 g3 g4 g5 g6 g7 g8 (hnx _ _ _ g9)
        · obtain ⟨na, ra, g1, g2⟩ := mcell_inv h2
          obtain ⟨nb, rb, g3, g4, g5, g6, g7, g8, g9⟩ := mcell_inv g2
          exact sn_copyl C hd (hw' _ (by simp)) (hw' _ (by simp)) (hw' _ (by simp)) (hw' _ (by simp)) (Nat.le_of_ble_eq_true h1) (Nat.le_of_ble_eq_true h3) (mlow9 hlen g1) (mlow9 hlen g3) g1 g3 g4 g5 g6 g7 g8 (hnx _ _ _ g9)
      · exact hs.elim
    | false =>
     cases h902 : Nat.beq p9 902 with
     | true =>
      have hw' : ∀ w ∈ ([.methodLink M.1.cls n Lib.Math.max.name, .static Lib.Math.max.name, .initialized "java/lang/Math", .code Lib.Math.max.name Lib.Math.max.code 2 (some .int)] : List Cond), w ∈ mG := by simpa only [mLk, h900, h902] using hw
      simp only [mstp, h900, h902] at hs
      obtain ⟨x, y, S1, rfl, h2⟩ := m2i_inv hs
      obtain ⟨h1, h2⟩ := mif_inv h2
      obtain ⟨h1, h3⟩ := bnd h1
      exact sn_max C hd (hw' _ (by simp)) (hw' _ (by simp)) (hw' _ (by simp)) (hw' _ (by simp)) (Nat.le_of_ble_eq_true h1) (Nat.le_of_ble_eq_true h3) (hnx _ _ _ h2)
     | false =>
     cases h903 : Nat.beq p9 903 with
     | true =>
      have hw' : ∀ w ∈ ([.methodLink M.1.cls n Lib.Math.min.name, .static Lib.Math.min.name, .initialized "java/lang/Math", .code Lib.Math.min.name Lib.Math.min.code 2 (some .int)] : List Cond), w ∈ mG := by simpa only [mLk, h900, h902, h903] using hw
      simp only [mstp, h900, h902, h903] at hs
      obtain ⟨x, y, S1, rfl, h2⟩ := m2i_inv hs
      obtain ⟨h1, h2⟩ := mif_inv h2
      obtain ⟨h1, h3⟩ := bnd h1
      exact sn_min C hd (hw' _ (by simp)) (hw' _ (by simp)) (hw' _ (by simp)) (hw' _ (by simp)) (Nat.le_of_ble_eq_true h1) (Nat.le_of_ble_eq_true h3) (hnx _ _ _ h2)
     | false =>
     cases h904 : Nat.beq p9 904 with
     | true =>
      have hw' : ∀ w ∈ ([.methodLink M.1.cls n Lib.Math.abs.name, .static Lib.Math.abs.name, .initialized "java/lang/Math", .code Lib.Math.abs.name Lib.Math.abs.code 1 (some .int)] : List Cond), w ∈ mG := by simpa only [mLk, h900, h902, h903, h904] using hw
      simp only [mstp, h900, h902, h903, h904] at hs
      obtain ⟨x, S1, rfl, h2⟩ := m1i_inv hs
      obtain ⟨h1, h2⟩ := mif_inv h2
      obtain ⟨h1, h3⟩ := bnd h1
      exact sn_abs C hd (hw' _ (by simp)) (hw' _ (by simp)) (hw' _ (by simp)) (hw' _ (by simp)) (Nat.le_of_ble_eq_true h1) (Nat.le_of_ble_eq_true h3) (hnx _ _ _ h2)
     | false =>
      simp only [mstp, h900, h902, h903, h904] at hs
      obtain ⟨as, S1, rfl, h1, h2⟩ := mpops_inv _ _ _ _ hs
      obtain ⟨h3, h4⟩ := mif_inv h2
      rw [List.append_nil] at h4
      simp only [h900, h902, h903, h904, Bool.or_false] at c2
      cases hz : mtab[p9]? with
      | none => simp [hz] at c2
      | some M' =>
        simp only [hz] at c2
        obtain ⟨c2, c3⟩ := bnd c2
        obtain ⟨c3, c4⟩ := bnd c3
        obtain ⟨c4, c5⟩ := bnd c4
        obtain ⟨d1, d2⟩ := mDs_inv c4
        cases hv1 : decide (v9 = 1) with
        | true =>
          have hw' : ∀ w ∈ ([.static M'.1, .initialized M'.1.cls, .code M'.1 M'.2.1 M'.2.2.1 M'.2.2.2.1] : List Cond), w ∈ mG := by simpa only [mLk, h900, h902, h903, h904, hz, hv1] using hw
          rw [hv1] at c5
          obtain ⟨g1, g2⟩ := bnd (by simpa using c5 : (M.1.cls == RX6 && (Nat.beq n 113 && M'.1 == yX8_within)) = true)
          obtain ⟨g2, g3⟩ := bnd g2
          refine sn_callS C hd hz ⟨nbe c2, nbe c3⟩ d2 h1 (Or.inr ⟨by simpa using g1, nbe g2, by simpa using g3⟩) (hw' _ (by simp)) (hw' _ (by simp)) (hw' _ (by simp)) d1 (Nat.le_of_ble_eq_true h3) h4 (fun r h' hk => ?_)
          cases r <;> exact hnx _ _ _ hk
        | false =>
          have hw' : ∀ w ∈ ([.methodLink M.1.cls n M'.1, .static M'.1, .initialized M'.1.cls, .code M'.1 M'.2.1 M'.2.2.1 M'.2.2.2.1] : List Cond), w ∈ mG := by simpa only [mLk, h900, h902, h903, h904, hz, hv1] using hw
          refine sn_callS C hd hz ⟨nbe c2, nbe c3⟩ d2 h1 (Or.inl (hw' _ (by simp))) (hw' _ (by simp)) (hw' _ (by simp)) (hw' _ (by simp)) d1 (Nat.le_of_ble_eq_true h3) h4 (fun r h' hk => ?_)
          cases r <;> exact hnx _ _ _ hk
  | invokespecial n =>
    obtain ⟨c1, c2⟩ := bnd hc
    cases nbe c1
    cases h901 : Nat.beq p9 901 with
    | true =>
      have hw' : ∀ w ∈ ([.methodLink M.1.cls n objectInit, .instanceMethod objectInit, .code objectInit ⟨#[0xb1]⟩ 1 none] : List Cond), w ∈ mG := by simpa only [mLk, h901] using hw
      simp only [mstp, h901] at hs
      obtain ⟨a, S', rfl, h2⟩ := m1a_inv hs
      obtain ⟨h1, h2⟩ := mif_inv h2
      obtain ⟨h1, h3⟩ := bnd h1
      obtain ⟨h3, h4⟩ := bnd h3
      exact sn_oinit C hd (hw' _ (by simp)) (hw' _ (by simp)) (hw' _ (by simp)) (Nat.le_of_ble_eq_true h3) (Nat.le_of_ble_eq_true h4) h1 (hnx _ _ _ h2)
    | false =>
      simp only [mstp, h901] at hs
      obtain ⟨as, S1, rfl, h1, h2⟩ := mpops_inv _ _ _ _ hs
      obtain ⟨a, S', rfl, h2⟩ := m1a_inv h2
      obtain ⟨h3, h4⟩ := mif_inv h2
      obtain ⟨h3, h5⟩ := bnd h3
      obtain ⟨h5, h6⟩ := bnd h5
      obtain ⟨h6, h7⟩ := bnd h6
      rw [List.append_nil] at h4
      simp only [h901] at c2
      obtain ⟨c0, c2⟩ := bnd c2
      cases hz : mtab[p9]? with
      | none => simp [hz] at c2
      | some M' =>
        simp only [hz] at c2
        obtain ⟨c2, c3⟩ := bnd c2
        obtain ⟨c3, c4⟩ := bnd c3
        obtain ⟨c4, c5⟩ := bnd c4
        obtain ⟨c5, c6⟩ := bnd c5
        obtain ⟨d1, d2⟩ := mDs_inv c4
        have hw' : ∀ w ∈ ([.methodLink M.1.cls n M'.1, .instanceMethod M'.1, .initialized M'.1.cls, .code M'.1 M'.2.1 M'.2.2.1 M'.2.2.2.1] : List Cond), w ∈ mG := by simpa only [mLk, h901, hz] using hw
        have ha9 : Nat.ble a 999 = true := by
          unfold mrcv at h3
          cases h9 : Nat.ble a 999 with
          | true => rfl
          | false =>
            rw [h9] at h3
            simp only [cond_false] at h3
            obtain ⟨g1, -⟩ := bnd h3
            have := nbe g1
            have := Nat.le_of_ble_eq_true c0
            omega
        have hf1 := Nat.le_of_ble_eq_true h6
        have hf2 := Nat.le_of_ble_eq_true h7
        rw [← nbe c2] at hf1
        rw [← nbe c3] at hf2
        refine sn_callI C hd hz d2 h1 (by simpa using c5) (by simpa using c6) (hw' _ (by simp)) (hw' _ (by simp)) (hw' _ (by simp)) (hw' _ (by simp)) d1 ha9 (Nat.le_of_ble_eq_true h5) hf1 hf2 h4 (fun r h' hk => ?_)
        cases r <;> exact hnx _ _ _ hk
  | ireturn =>
    cases nbe hc
    obtain ⟨x, S', rfl, h2⟩ := m1i_inv hs
    obtain ⟨rfl, h2⟩ := mend_inv h2
    exact fun ls H locs cells slots hI => (hret ls H locs cells slots L h pc hI).1 x hd h2
  | lreturn =>
    obtain ⟨c1, c2⟩ := bnd hc
    cases nbe c1
    obtain ⟨x, S', rfl, h2⟩ := m1l_inv hs
    obtain ⟨rfl, h2⟩ := mend_inv h2
    exact fun ls H locs cells slots hI => (hret ls H locs cells slots L h pc hI).2.1 x hd (by simpa using c2) h2
  | return_ =>
    obtain ⟨c1, c2⟩ := bnd hc
    cases nbe c1
    obtain ⟨rfl, h2⟩ := mend_inv hs
    refine fun ls H locs cells slots hI => (hret ls H locs cells slots L h pc hI).2.2.1 hd (by simpa using c2) ?_ ?_
    · split at h2
      · exact (mif_inv h2).2
      · exact h2
    · intro hn
      split at h2
      · obtain ⟨g1, -⟩ := mif_inv h2
        obtain ⟨g1, g2⟩ := bnd g1
        exact ⟨nbe g1, nbe g2⟩
      · rename_i hn2
        simp [hn] at hn2
  | areturn =>
    obtain ⟨c1, c2⟩ := bnd hc
    cases nbe c1
    obtain ⟨x, S', rfl, h2⟩ := m1a_inv hs
    obtain ⟨rfl, h2⟩ := mend_inv h2
    refine fun ls H locs cells slots hI => (hret ls H locs cells slots L h pc hI).2.2.2 x hd ?_ h2
    split at c2
    · exact ⟨_, by assumption⟩
    · cases c2
  | _ => exact False.elim hs
end STP
