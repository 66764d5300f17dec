/-! THE MINI MACHINE AND THE MACHINE, 8: walks, contracts, loops: all that the proofs of methods use -/
def mAll (M : MM) : Prop := ∀ I ∈ M.2.2.2.2.2.2, mOk M I
abbrev mIni (M : MM) : Bool := decide (M.1.name = "<init>")
theorem mdrop_in {t : Nat} : ∀ (is : List MI) (I : MI), I ∈ mdrop t is → I ∈ is
  | [], I, h => h
  | J :: is, I, h => by
    unfold mdrop at h
    cases hb : Nat.beq J.1 t with
    | true => rwa [hb] at h
    | false =>
      rw [hb] at h
      exact List.mem_cons_of_mem _ (mdrop_in is I h)
theorem mdrop_head {t : Nat} : ∀ (is : List MI) (I : MI) (is' : List MI), mdrop t is = I :: is' → I.1 = t
  | [], I, is', h => by simp [mdrop] at h
  | J :: is, I, is', h => by
    unfold mdrop at h
    cases hb : Nat.beq J.1 t with
    | true =>
      rw [hb] at h
      cases h
      exact nbe hb
    | false =>
      rw [hb] at h
      exact mdrop_head is I is' h
theorem mnxt_in {t : Nat} {is : List MI} {I : MI} (h : I ∈ mnxt t is) : I ∈ is := by
  unfold mnxt at h
  split at h
  · exact h
  · split at h
    · exact h
    · simp at h
theorem mnxt_head {t : Nat} {is : List MI} {I : MI} {is' : List MI} (h : mnxt t is = I :: is') : I.1 = t := by
  unfold mnxt at h
  split at h
  · cases h
  · split at h
    · rename_i hb
      cases h
      exact nbe hb
    · cases h
section SEM
variable {p : Program} {l : Launch} {e : Env} {R : Room} {s : State} {m : MethodId} {args : Array Value} {below : List Frame} {meth : Method} {c : Code} {Q : State → Prop} {E : ME} {D : va_G} {c5 : Nat → ClassId} {adr : Nat → Nat} {vF : Value} {base d : Nat} {M : MM} {h0 : MH}
theorem mwp_sound {ax : Nat → MN} {cut : List Nat} {K : MK} (C : mCtx E D c5 adr vF base d M R p s m args meth c) (hok : mAll M) (hret : mRt p l e R s m args below meth c Q D c5 adr vF base M h0 K) (hax : ∀ pc L S h, ax pc L S h → mAt p l e R s m args below meth c Q D c5 adr vF base M h0 pc L S h) : ∀ (n : Nat) (is : List MI) (L : ML) (S : List Value) (h : MH), (∀ I ∈ is, I ∈ M.2.2.2.2.2.2) → mwp E d (h0.1.length + R.cells, msz h0.1 + R.slots) M.2.2.2.1 (mIni M) (mCls E d) ax cut M.2.2.2.2.2.2 K n is L S h → ∀ I is', is = I :: is' → mAt p l e R s m args below meth c Q D c5 adr vF base M h0 I.1 L S h := by
  intro n
  induction n with
  | zero => intro is L S h _ hw; exact hw.elim
  | succ n ih =>
    intro is L S h hin hw I is' e9
    subst e9
    have hgo : ∀ (t : Nat) (js : List MI) (L : ML) (S : List Value) (h : MH), (∀ J ∈ js, J ∈ M.2.2.2.2.2.2) → (∀ J js', js = J :: js' → J.1 = t) → mgo ax cut (mwp E d (h0.1.length + R.cells, msz h0.1 + R.slots) M.2.2.2.1 (mIni M) (mCls E d) ax cut M.2.2.2.2.2.2 K n) js L S h → mAt p l e R s m args below meth c Q D c5 adr vF base M h0 t L S h := by
      intro t js L S h h1 h2 h3
      unfold mgo at h3
      split at h3
      · exact h3.elim
      · rename_i J js'
        have ht := h2 J js' rfl
        subst ht
        split at h3
        · exact hax _ _ _ _ h3
        · exact ih _ L S h h1 h3 J js' rfl
    exact mstp_sound C (hok I (hin I List.mem_cons_self)) hret (fun L S h hk => hgo _ _ L S h (fun J hJ => hin J (List.mem_cons_of_mem _ (mnxt_in hJ))) (fun J js' hj => mnxt_head hj) hk) (fun t L S h hk => hgo t _ L S h (fun J hJ => mdrop_in _ J hJ) (fun J js' hj => mdrop_head _ J js' hj) hk) hw
/-- the ends of a method that has a contract -/
theorem mRt_of {K : MK} (C : mCtx E D c5 adr vF base d M (mRm d M) p s m args meth c) (hal : (mIni M = false ∧ M.2.2.2.2.1 = 0 ∧ M.2.2.2.2.2.1 = 0) ∨ (mIni M = true ∧ M.2.2.2.1 = none)) (hr : meth.sig.returnType = M.2.2.2.1) (hlocks : meth.locks = false) : mRt p l e (mRm d M) s m args below meth c (MQ below (mQc D c5 adr vF base h0 M.2.2.2.2.1 M.2.2.2.2.2.1 K) args s M.2.2.2.2.1 M.2.2.2.2.2.1 (fun q => base ≤ q)) D c5 adr vF base M h0 K := by
  intro ls H locs cells slots L h pc hI
  obtain ⟨i1, i2, i3, i4, i5, i6, i7, i8⟩ := hI
  have i6 : cells ≤ M.2.2.2.2.1 := i6
  have i7 : slots ≤ M.2.2.2.2.2.1 := i7
  have q0 : ∀ (r : Option Value), K r h → cells = M.2.2.2.2.1 → slots = M.2.2.2.2.2.1 → ∀ t : State, t.heap = H → s.WarmedH t.vm → mQc D c5 adr vF base h0 M.2.2.2.2.1 M.2.2.2.2.2.1 K args s (.returned (r.map (mlf adr vF))) t := fun r hK e1 e2 t ht _ => ⟨⟨r, h, rfl, hK, by rw [ht]; exact i2, by omega, by omega⟩, i3.F ht⟩
  have flat : M.2.2.2.1 ≠ none → cells = M.2.2.2.2.1 ∧ slots = M.2.2.2.2.2.1 := fun hn => by
    rcases hal with ⟨-, a1, a2⟩ | ⟨-, a1⟩
    · exact ⟨by omega, by omega⟩
    · exact absurd a1 hn
  refine ⟨fun x hd hk => ?_, fun x hd hl hk => ?_, fun hd hn hk hin => ?_, fun x hd hn hk => ?_⟩
  · cases hrt : M.2.2.2.1 with
    | none => rw [hrt] at hk; exact hk.elim
    | some ty =>
      obtain ⟨e1, e2⟩ := flat (by rw [hrt]; exact fun e => by cases e)
      rw [← e1, ← e2] at q0 ⊢
      rw [hrt] at hk hr
      by_cases hty : ty = .int
      · subst hty
        exact W.iret C.1.1 C.1.2.1 hr (q0 (some (.int x)) hk rfl rfl) i3.2.2 hd
      · have hk : narrow ty (.int x) = .int x ∧ K (some (.int x)) h := by
          cases ty <;> first | exact absurd rfl hty | exact hk
        exact W.zret C.1.1 C.1.2.1 hr hk.1 (q0 (some (.int x)) hk.2 rfl rfl) i3.2.2 hd
  · obtain ⟨e1, e2⟩ := flat (by rw [hl]; exact fun e => by cases e)
    rw [← e1, ← e2] at q0 ⊢
    exact W.lret C.1.1 C.1.2.1 (hr.trans hl) (q0 (some (.long x)) hk rfl rfl) i3.2.2 hd
  · have e12 : cells = M.2.2.2.2.1 ∧ slots = M.2.2.2.2.2.1 := by
      rcases hal with ⟨-, a1, a2⟩ | ⟨a1, -⟩
      · exact ⟨by omega, by omega⟩
      · obtain ⟨g1, g2⟩ := hin (of_decide_eq_true a1)
        have g1 : h.1.length = h0.1.length + M.2.2.2.2.1 := g1
        have g2 : msz h.1 = msz h0.1 + M.2.2.2.2.2.1 := g2
        exact ⟨by omega, by omega⟩
    obtain ⟨e1, e2⟩ := e12
    rw [← e1, ← e2] at q0 ⊢
    exact W.vret C.1.1 C.1.2.1 (hr.trans hn) (q0 none hk rfl rfl) i3.2.2 hd
  · obtain ⟨n, hn⟩ := hn
    obtain ⟨e1, e2⟩ := flat (by rw [hn]; exact fun e => by cases e)
    rw [← e1, ← e2] at q0 ⊢
    have hv : mad adr vF x = .null ∨ ∃ t, mad adr vF x = .ref t := by
      unfold mad
      cases Nat.beq x 1002
      · exact Or.inr ⟨_, rfl⟩
      · exact C.2.2.2.1.2.1
    exact W.aret C.1.1 C.1.2.1 (hr.trans hn) (Or.inl ⟨n, rfl⟩) hv (q0 (some (.ref x)) hk rfl rfl) i3.2.2 hd
end SEM
/-- from the place pc on, with these locals, this stack, this heap, in method y, which began at h0 and has room for so many cells and slots: it comes to its end, and K holds there -/
def mSem (E : ME) (d y : Nat) (h0 : MH) (cc cs : Nat) (K : MK) (pc : Nat) : MN := fun L S h => ∀ M, mtab[y]? = some M → ∀ (p : Program) (l : Launch) (e : Env) (R : Room) (s : State) (m : MethodId) (args : Array Value) (below : List Frame) (meth : Method) (c : Code) (Q : State → Prop) (D : va_G) (c5 : Nat → ClassId) (adr : Nat → Nat) (vF : Value) (base : Nat), R.cells = cc → R.slots = cs → mCtx E D c5 adr vF base d M R p s m args meth c → mRt p l e R s m args below meth c Q D c5 adr vF base M h0 K → mAt p l e R s m args below meth c Q D c5 adr vF base M h0 pc L S h
/-- a walk: up to the places of 'cut' -/
theorem mSem_wp {E : ME} {d y : Nat} {h0 : MH} {cc cs : Nat} {K : MK} {pc : Nat} {L : ML} {S : List Value} {h : MH} (M : MM) (hM : mtab[y]? = some M) (hok : mAll M) (n : Nat) (cut : List Nat) (k : ∀ (cl : Nat → List Value → MH → MK → Prop) (ax : Nat → MN), (∀ z as h K, mCls E d z as h K → cl z as h K) → (∀ pc L S h, mSem E d y h0 cc cs K pc L S h → ax pc L S h) → mwp E d (h0.1.length + cc, msz h0.1 + cs) M.2.2.2.1 (mIni M) cl ax cut M.2.2.2.2.2.2 K n (mdrop pc M.2.2.2.2.2.2) L S h) : mSem E d y h0 cc cs K pc L S h := by
  intro M' hM' p l e R s m args below meth c Q D c5 adr vF base hc hs C hret
  cases hM.symm.trans hM'
  have hk := k (mCls E d) (mSem E d y h0 cc cs K) (fun _ _ _ _ h => h) (fun _ _ _ _ h => h)
  subst hc
  subst hs
  cases hdr : mdrop pc M.2.2.2.2.2.2 with
  | nil =>
    rw [hdr] at hk
    cases n <;> exact False.elim hk
  | cons I is =>
    have := mwp_sound C hok hret (fun pc L S h hk => hk M hM p l e R s m args below meth c Q D c5 adr vF base rfl rfl C hret) n _ L S h (fun J hJ => mdrop_in _ J hJ) hk I is hdr
    rwa [mdrop_head _ I is hdr] at this
/-- a loop at pc: states t with I, the measure μ falls -/
theorem mSem_loop {σ : Type} {E : ME} {d y : Nat} {h0 : MH} {cc cs : Nat} {K : MK} {pc : Nat} (M : MM) (hM : mtab[y]? = some M) (hok : mAll M) (n : Nat) (cut : List Nat) (Lf : σ → ML) (hf : σ → MH) (I : σ → Prop) (μ : σ → Nat) (step : ∀ t, I t → ∀ (cl : Nat → List Value → MH → MK → Prop) (ax : Nat → MN), (∀ z as h K, mCls E d z as h K → cl z as h K) → (∀ pc L S h, mSem E d y h0 cc cs K pc L S h → ax pc L S h) → (∀ t', I t' → μ t' < μ t → ax pc (Lf t') [] (hf t')) → mwp E d (h0.1.length + cc, msz h0.1 + cs) M.2.2.2.1 (mIni M) cl ax cut M.2.2.2.2.2.2 K n (mdrop pc M.2.2.2.2.2.2) (Lf t) [] (hf t)) : ∀ t, I t → mSem E d y h0 cc cs K pc (Lf t) [] (hf t) := by
  have key : ∀ (b : Nat) (t : σ), μ t < b → I t → mSem E d y h0 cc cs K pc (Lf t) [] (hf t) := by
    intro b
    induction b with
    | zero => intro t hb; omega
    | succ b ih =>
      intro t hb hI
      exact mSem_wp M hM hok n cut (fun cl ax hcl hax => step t hI cl ax hcl hax (fun t' hI' hlt => hax _ _ _ _ (ih t' (by omega) hI')))
  exact fun t hI => key (μ t + 1) t (Nat.lt_succ_self _) hI
def mArgs : List Value → ML
  | [] => []
  | v :: vs => (match Nat.beq v.category 2 with
    | true => some v :: none :: mArgs vs
    | false => some v :: mArgs vs)
def mFill (L : ML) : Nat → ML
  | 0 => []
  | n + 1 => (match L with
    | [] => none :: mFill [] n
    | v :: L => v :: mFill L n)
theorem mFill_len : ∀ (n : Nat) (L : ML), (mFill L n).length = n
  | 0, L => rfl
  | n + 1, [] => by simp [mFill, mFill_len n]
  | n + 1, v :: L => by simp [mFill, mFill_len n]
theorem mFill_get : ∀ (n : Nat) (L : ML) (i : Nat) (v : Value), (mFill L n)[i]? = some (some v) → L[i]? = some (some v)
  | 0, L, i, v, h => by simp [mFill] at h
  | n + 1, [], 0, v, h => by simp [mFill] at h
  | n + 1, [], i + 1, v, h => by
    have := mFill_get n [] i v (by simpa [mFill] using h)
    simp at this
  | n + 1, w :: L, 0, v, h => by simpa [mFill] using h
  | n + 1, w :: L, i + 1, v, h => by
    have := mFill_get n L i v (by simpa [mFill] using h)
    simpa using this
theorem mArgs_mem {adr : Nat → Nat} {vF : Value} (hF : vF = .null ∨ ∃ t, vF = .ref t) : ∀ (vs : List Value) (i j : Nat) (v : Value), (mArgs vs)[j]? = some (some v) → (i + j, mlf adr vF v) ∈ lv_args i (vs.map (mlf adr vF))
  | [], i, j, v, h => by simp [mArgs] at h
  | w :: vs, i, j, v, h => by
    unfold mArgs at h
    rw [List.map_cons, lv_args, mlf_cat hF]
    cases hb : Nat.beq w.category 2 with
    | true =>
      rw [hb] at h
      rw [if_pos (nbe hb)]
      match j, h with
      | 0, h =>
        simp at h
        subst h
        simp
      | 1, h => simp at h
      | j + 2, h =>
        have := mArgs_mem (adr := adr) hF vs (i + 2) j v (by simpa using h)
        rw [show i + (j + 2) = i + 2 + j by omega]
        exact List.mem_cons_of_mem _ this
    | false =>
      rw [hb] at h
      have hn : ¬ w.category = 2 := fun e9 => by rw [e9] at hb; cases hb
      rw [if_neg hn]
      match j, h with
      | 0, h =>
        simp at h
        subst h
        simp
      | j + 1, h =>
        have := mArgs_mem (adr := adr) hF vs (i + 1) j v (by simpa using h)
        rw [show i + (j + 1) = i + 1 + j by omega]
        exact List.mem_cons_of_mem _ this
theorem mArgs_len {adr : Nat → Nat} {vF : Value} (hF : vF = .null ∨ ∃ t, vF = .ref t) : ∀ (vs : List Value), (lg_sl (vs.map (mlf adr vF))).length = (mArgs vs).length
  | [] => rfl
  | w :: vs => by
    have := mArgs_len (adr := adr) hF vs
    unfold mArgs
    cases hb : Nat.beq w.category 2 with
    | true =>
      have e9 := nbe hb
      simp only [List.map_cons, lg_sl, List.flatMap_cons, mlf_cat hF, e9, if_true, List.length_append, List.length_cons, List.length_nil] at this ⊢
      omega
    | false =>
      have hn : ¬ w.category = 2 := fun e9 => by rw [e9] at hb; cases hb
      simp only [List.map_cons, lg_sl, List.flatMap_cons, mlf_cat hF, hn, if_false, List.length_append, List.length_cons, List.length_nil] at this ⊢
      omega
/-- a contract out of a walk from the method's entry -/
theorem mCall_sem {E : ME} {d y : Nat} {as : List Value} {h : MH} {K : MK} (M : MM) (hM : mtab[y]? = some M) (hpl : plainName M.1.cls = true) (hal : (mIni M = false ∧ M.2.2.2.2.1 = 0 ∧ M.2.2.2.2.2.1 = 0) ∨ (mIni M = true ∧ M.2.2.2.1 = none)) (hle : Nat.ble (mArgs as).length M.2.2.1 = true) (k : mSem E d y h M.2.2.2.2.1 M.2.2.2.2.2.1 K 0 (mFill (mArgs as) M.2.2.1) [] h) : mCall E d y as h K := by
  intro l D c5 adr vF base M' hM'
  cases hM.symm.trans hM'
  refine Met.ofW (cc := M.2.1) (maxL := M.2.2.1) (ret := M.2.2.2.1) hpl rfl ?_
  intro p e s m args below meth c s₁ B hml hv
  obtain ⟨rfl, hR, hK, hSf, had⟩ := hv
  have hts := atoms_spec (ws := mWd M) B.pre
  have hF := hSf.2.1
  have C : mCtx E D c5 adr vF base d M (mRm d M) p s m (as.map (mlf adr vF)).toArray meth c := ⟨⟨B.exec, B.bytes, hml, findClass_of_methodNamed B.named, fun w hw => hts w (List.mem_cons_of_mem _ hw)⟩, hK, (name_of_methodNamed B.named B.method).1, hSf, by rw [hR.1.1]; omega, Nat.le_refl _, Nat.le_refl _, had⟩
  have hlen : (lg_sl (as.map (mlf adr vF))).length ≤ M.2.2.1 := by rw [mArgs_len hF]; exact Nat.le_of_ble_eq_true hle
  have hl := lv_entry (as.map (mlf adr vF)) hlen
  rw [lg_entry_eq]
  generalize (lg_sl (as.map (mlf adr vF)) ++ List.replicate (M.2.2.1 - (lg_sl (as.map (mlf adr vF))).length) Slot.unset).toArray = ls at hl ⊢
  have hI : mInv D c5 adr vF base h (mRm d M) M.2.2.1 s ls s.heap [] 0 0 (mFill (mArgs as) M.2.2.1) h := by
    refine ⟨⟨mFill_len _ _, hl.1, hl.2.1, fun q hq => hl.2.2 q ?_⟩, hR, va_S.rf, rfl, rfl, Nat.zero_le _, Nat.zero_le _, hR.1.1⟩
    obtain ⟨j, v, h1, rfl⟩ := (mLv_mem _ 0 q).mp hq
    have := mArgs_mem (adr := adr) hF as 0 j v (mFill_get _ _ _ _ h1)
    exact this
  exact k M hM p l e (mRm d M) s m _ below meth c _ D c5 adr vF base rfl rfl C (mRt_of C hal B.returns B.notSynchronized) ls s.heap [] 0 0 hI
