/-! THE MINI MACHINE AND THE MACHINE, 4: instructions on the heap -/
theorem W_size {p : Program} {l : Launch} {e : Env} {R : Room} {s : State} {m : MethodId} {args : Array Value} {below : List Frame} {meth : Method} {c : Code} {H : Heap} {locs : List Loc} {cells slots : Nat} {Q : State → Prop} {g : JFrame} (k : H.size ≤ s.heap.size + cells → W p l e R s m args below meth c H locs cells slots Q g) : W p l e R s m args below meth c H locs cells slots Q g := fun T hT X => k (by rw [← hT]; exact X.heapSize) T hT X
theorem msw_inv {jm : Nat → Prop} {x : Int32} {dflt : Nat} : ∀ (ts : List Nat) (n0 : Nat), msw jm x dflt (nI n0) ts → (∃ j t, ts[j]? = some t ∧ x = nI (n0 + j) ∧ jm t) ∨ ((∀ j, j < ts.length → ¬ x = nI (n0 + j)) ∧ jm dflt)
  | [], n0, h => Or.inr ⟨fun j hj => by simp at hj, h⟩
  | t :: ts, n0, h => by
    by_cases hx : x = nI n0
    · exact Or.inl ⟨0, t, by simp, hx, h.1 hx⟩
    · have h2 : msw jm x dflt (nI (n0 + 1)) ts := by
        have := h.2 hx
        rwa [nI_1] at this
      rcases msw_inv ts (n0 + 1) h2 with ⟨j, u, h3, h4, h5⟩ | ⟨h3, h4⟩
      · exact Or.inl ⟨j + 1, u, by simpa using h3, by rw [h4]; congr 1; omega, h5⟩
      · refine Or.inr ⟨fun j hj => ?_, h4⟩
        cases j with
        | zero => exact hx
        | succ j =>
          have := h3 j (by simpa using hj)
          rwa [show n0 + (j + 1) = n0 + 1 + j by omega]
theorem nI_self {x : Int32} {n : Nat} (h : x.toInt = n) (hn : n < 2 ^ 31) : x = nI n := Int32.toInt_inj.mp (by rw [h, nI_toInt hn])
section HEAP
variable {p : Program} {l : Launch} {e : Env} {R : Room} {s : State} {m : MethodId} {args : Array Value} {below : List Frame} {meth : Method} {c : Code} {Q : State → Prop} {E : ME} {D : va_G} {c5 : Nat → ClassId} {adr : Nat → Nat} {vF : Value} {base d : Nat} {M : MM} {h0 : MH} {pc : Nat} {L : ML} {S : List Value} {h : MH}
theorem sn_tsw {dflt lo hi : Int} {offs : Array Int} {len n0 p0 : Nat} {ts : List Nat} {x : Int32} {jm : Nat → Prop} (C : mCtx E D c5 adr vF base d M R p s m args meth c) (hd : decode M.2.1 pc = .ok (.tableswitch dflt lo hi offs, len)) (hlo : lo = (n0 : Int)) (hhi : hi = lo + ts.length - 1) (hsm : n0 + ts.length < 2 ^ 31) (hof : offs.toList.map (fun o => (pc : Int) + o) = ts.map (fun t : Nat => (t : Int))) (hdf : (pc : Int) + dflt = (p0 : Int)) (hs : msw jm x p0 (nI n0) ts) (kj : ∀ t, jm t → mAt p l e R s m args below meth c Q D c5 adr vF base M h0 t L S h) : mAt p l e R s m args below meth c Q D c5 adr vF base M h0 pc L (.int x :: S) h := fun ls H locs cells slots hI => by
  subst hlo
  rcases msw_inv ts n0 hs with ⟨j, t, h1, h2, h3⟩ | ⟨h1, h2⟩
  · have hj : j < ts.length := (List.getElem?_eq_some_iff.mp h1).1
    have hx : x.toInt = ((n0 + j : Nat) : Int) := by rw [h2]; exact nI_toInt (by omega)
    have ho : (offs.toList.map (fun o => (pc : Int) + o))[j]? = some (t : Int) := by rw [hof, List.getElem?_map, h1]; rfl
    rw [List.getElem?_map, Option.map_eq_some_iff] at ho
    obtain ⟨off, ho1, ho2⟩ := ho
    exact lv_tableIn C.1.1 C.1.2.1 hd (by rw [hx]; omega) (by rw [hx, hhi]; omega) (by rw [hx, show (((n0 + j : Nat) : Int) - (n0 : Int)).toNat = j by omega, ← Array.getElem?_toList]; exact ho1) ho2 (kj t h3 ls H locs cells slots hI)
  · refine lv_tableOut C.1.1 C.1.2.1 hd ?_ hdf (kj p0 h2 ls H locs cells slots hI)
    by_cases q1 : x.toInt < (n0 : Int)
    · exact Or.inl q1
    · right
      apply Decidable.byContradiction
      intro q2
      have : x.toInt = ((n0 + (x.toInt - n0).toNat : Nat) : Int) := by omega
      exact h1 (x.toInt - n0).toNat (by omega) (nI_self this (by omega))
theorem sn_lsw {dflt : Int} {ps : Array (Int × Int)} {len n0 p0 : Nat} {ts : List Nat} {x : Int32} {jm : Nat → Prop} (C : mCtx E D c5 adr vF base d M R p s m args meth c) (hd : decode M.2.1 pc = .ok (.lookupswitch dflt ps, len)) (hp : (ps.toList.zip (ps.toList.drop 1)).all (fun (a, next) => a.1 < next.1) = true) (hk : ps.toList.map (fun q => q.1) = (List.range ts.length).map (fun j => ((n0 + j : Nat) : Int))) (hsm : n0 + ts.length < 2 ^ 31) (hof : ps.toList.map (fun q => (pc : Int) + q.2) = ts.map (fun t : Nat => (t : Int))) (hdf : (pc : Int) + dflt = (p0 : Int)) (hs : msw jm x p0 (nI n0) ts) (kj : ∀ t, jm t → mAt p l e R s m args below meth c Q D c5 adr vF base M h0 t L S h) : mAt p l e R s m args below meth c Q D c5 adr vF base M h0 pc L (.int x :: S) h := fun ls H locs cells slots hI => by
  have key : ∀ (ts : List Nat) (n0 : Nat) (qs : List (Int × Int)), qs.map (fun q => q.1) = (List.range ts.length).map (fun j => ((n0 + j : Nat) : Int)) → n0 + ts.length < 2 ^ 31 → qs.map (fun q => (pc : Int) + q.2) = ts.map (fun t : Nat => (t : Int)) → msw jm x p0 (nI n0) ts → ∃ t, jm t ∧ (pc : Int) + Op.lookupswitch.offset qs dflt x.toInt = (t : Int) := by
    intro ts
    induction ts with
    | nil =>
      intro n0 qs h1 _ _ h4
      have : qs = [] := by simpa using h1
      subst this
      exact ⟨p0, h4, by rw [Op.lookupswitch.offset_nil]; exact hdf⟩
    | cons t ts ih =>
      intro n0 qs h1 h2 h3 h4
      cases qs with
      | nil => simp at h3
      | cons q qs =>
        obtain ⟨a, o⟩ := q
        simp only [List.map_cons, List.length_cons, List.range_succ_eq_map, List.cons.injEq, List.map_map] at h1 h3
        have ha : a = (n0 : Int) := by simpa using h1.1
        subst ha
        by_cases hx : x = nI n0
        · refine ⟨t, h4.1 hx, ?_⟩
          rw [Op.lookupswitch.offset_cons, if_pos (by rw [hx, nI_toInt (by simp at h2; omega)])]
          exact h3.1
        · rw [lv_osw hx (nI_toInt (by simp at h2; omega))]
          have h5 : msw jm x p0 (nI (n0 + 1)) ts := by
            have := h4.2 hx
            rwa [nI_1] at this
          refine ih (n0 + 1) qs ?_ (by simp at h2; omega) h3.2 h5
          rw [h1.2]
          apply List.map_congr_left
          intro j _
          show ((n0 + (j + 1) : Nat) : Int) = ((n0 + 1 + j : Nat) : Int)
          omega
  obtain ⟨t, h1, h2⟩ := key ts n0 ps.toList hk hsm hof hs
  exact lv_lookup C.1.1 C.1.2.1 hd hp rfl h2 (kj t h1 ls H locs cells slots hI)
/-- behind a write: one cell is new, the heap as large as it was -/
theorem mAfter {h' : MH} {ls : Array Slot} {H H1 : Heap} {locs locs1 : List Loc} {cells slots : Nat} (hI : mInv D c5 adr vF base h0 R M.2.2.1 s ls H locs cells slots L h) (hl : h'.1.length = h.1.length) (hz : msz h'.1 = msz h.1) (hP : va_P D mCl (mWs c5 adr base h') H1) (hS : va_S (fun q => base ≤ q) s.heap H1 locs1) (k : mAt p l e R s m args below meth c Q D c5 adr vF base M h0 pc L S h') : W p l e R s m args below meth c H1 locs1 cells slots Q (F0 m pc ls (S.map (mlf adr vF))) := by
  refine W_size (fun hsz => k ls H1 locs1 cells slots ?_)
  obtain ⟨i1, i2, i3, i4, i5, i6, i7, i8⟩ := hI
  refine ⟨i1, ⟨⟨?_, by rw [hl]; exact i2.1.2⟩, hP⟩, hS, by rw [hl]; exact i4, by rw [hz]; exact i5, i6, i7, i8⟩
  have hle : base + h'.1.length ≤ H1.size := by
    cases hn : h'.1.length with
    | zero => have := hS.1; omega
    | succ n =>
      have hlt : n < h'.1.length := by omega
      have := (hP n _ (mWs_get (List.getElem?_eq_getElem hlt))).lt
      have : base + n < H1.size := this
      omega
  omega
theorem mlow {a : Nat} (ha : Nat.ble a 999 = true) (C : mCtx E D c5 adr vF base d M R p s m args meth c) : mad adr vF a = .ref (base + a) := by
  have ha := Nat.le_of_ble_eq_true ha
  rw [mad_ref (nbq (by omega)), C.2.2.2.2.2.2.2 a ha]
theorem mcellLow {a kd : Nat} {q : Nat × Nat × List (Option Nat)} {H : Heap} (hr : mRel D c5 adr base h H) (hq : h.1[a]? = some q) : va_at D mCl (base + a, mCe c5 adr (h.2.1 a) (h.2.2 a) q) H := hr.2 a _ (mWs_get hq)
theorem sn_iald {a n : Nat} {rs : List (Option Nat)} {i : Int32} (C : mCtx E D c5 adr vF base d M R p s m args meth c) (hd : decode M.2.1 pc = .ok (.iaload, 1)) (ha : Nat.ble a 999 = true) (hq : h.1[a]? = some (0, n, rs)) (hi : vp_in i n) (k : mAt p l e R s m args below meth c Q D c5 adr vF base M h0 (pc + 1) L (.int (h.2.1 a i.toNatClampNeg) :: S) h) : mAt p l e R s m args below meth c Q D c5 adr vF base M h0 pc L (.int i :: .ref a :: S) h := fun ls H locs cells slots hI => by
  show W p l e R s m args below meth c H locs cells slots Q (F0 m pc ls (.int i :: mad adr vF a :: S.map (mlf adr vF)))
  rw [mlow ha C]
  exact va_iald C.1.1 C.1.2.1 C.2.1 hI.2.1.2 a 0 (mWs_get hq) rfl hi hd (k ls H locs cells slots hI)
theorem sn_zald {a n : Nat} {rs : List (Option Nat)} {i : Int32} (C : mCtx E D c5 adr vF base d M R p s m args meth c) (hd : decode M.2.1 pc = .ok (.baload, 1)) (ha : Nat.ble a 999 = true) (hq : h.1[a]? = some (1, n, rs)) (hi : vp_in i n) (k : mAt p l e R s m args below meth c Q D c5 adr vF base M h0 (pc + 1) L (.int (h.2.1 a i.toNatClampNeg) :: S) h) : mAt p l e R s m args below meth c Q D c5 adr vF base M h0 pc L (.int i :: .ref a :: S) h := fun ls H locs cells slots hI => by
  show W p l e R s m args below meth c H locs cells slots Q (F0 m pc ls (.int i :: mad adr vF a :: S.map (mlf adr vF)))
  rw [mlow ha C]
  exact va_zald C.1.1 C.1.2.1 C.2.1 hI.2.1.2 a 1 (mWs_get hq) rfl hi hd (k ls H locs cells slots hI)
theorem sn_lald {a n : Nat} {rs : List (Option Nat)} {i : Int32} (C : mCtx E D c5 adr vF base d M R p s m args meth c) (hd : decode M.2.1 pc = .ok (.laload, 1)) (ha : Nat.ble a 999 = true) (hq : h.1[a]? = some (2, n, rs)) (hi : vp_in i n) (k : mAt p l e R s m args below meth c Q D c5 adr vF base M h0 (pc + 1) L (.long (h.2.2 a i.toNatClampNeg) :: S) h) : mAt p l e R s m args below meth c Q D c5 adr vF base M h0 pc L (.int i :: .ref a :: S) h := fun ls H locs cells slots hI => by
  show W p l e R s m args below meth c H locs cells slots Q (F0 m pc ls (.int i :: mad adr vF a :: S.map (mlf adr vF)))
  rw [mlow ha C]
  exact va_lald C.1.1 C.1.2.1 C.2.1 hI.2.1.2 a 2 (mWs_get hq) rfl hi hd (k ls H locs cells slots hI)
theorem sn_aald {a n b r : Nat} {rs : List (Option Nat)} {i : Int32} (C : mCtx E D c5 adr vF base d M R p s m args meth c) (hd : decode M.2.1 pc = .ok (.aaload, 1)) (ha : Nat.ble a 999 = true) (hb : b ≤ 1) (hq : h.1[a]? = some (3 + b, n, rs)) (hi : vp_in i n) (hr : rs.getD i.toNatClampNeg none = some r) (hr2 : Nat.beq r 1002 = false) (k : mAt p l e R s m args below meth c Q D c5 adr vF base M h0 (pc + 1) L (.ref r :: S) h) : mAt p l e R s m args below meth c Q D c5 adr vF base M h0 pc L (.int i :: .ref a :: S) h := fun ls H locs cells slots hI => by
  show W p l e R s m args below meth c H locs cells slots Q (F0 m pc ls (.int i :: mad adr vF a :: S.map (mlf adr vF)))
  rw [mlow ha C]
  have hk : W p l e R s m args below meth c H locs cells slots Q (F0 m (pc + 1) ls (mad adr vF r :: S.map (mlf adr vF))) := k ls H locs cells slots hI
  rw [mad_ref hr2] at hk
  rcases (show b = 0 ∨ b = 1 by omega) with rfl | rfl
  · refine va_aldq C.1.1 C.1.2.1 C.2.1 hI.2.1.2 a 3 (mWs_get hq) rfl hi hd ?_
    rw [hr]
    exact hk
  · refine va_aldq C.1.1 C.1.2.1 C.2.1 hI.2.1.2 a 4 (mWs_get hq) rfl hi hd ?_
    rw [hr]
    exact hk
theorem sn_tld {a n : Nat} {f : Nat → Int32} {i : Int32} (C : mCtx E D c5 adr vF base d M R p s m args meth c) (hd : decode M.2.1 pc = .ok (.iaload, 1)) (ha : Nat.ble a 999 = false) (hq : mRo E a = some (0, n, f)) (hi : vp_in i n) (k : mAt p l e R s m args below meth c Q D c5 adr vF base M h0 (pc + 1) L (.int (f i.toNatClampNeg) :: S) h) : mAt p l e R s m args below meth c Q D c5 adr vF base M h0 pc L (.int i :: .ref a :: S) h := fun ls H locs cells slots hI => by
  have hk := k ls H locs cells slots hI
  show W p l e R s m args below meth c H locs cells slots Q (F0 m pc ls (.int i :: mad adr vF a :: S.map (mlf adr vF)))
  unfold mRo at hq
  cases h1 : Nat.beq a 1000 with
  | true =>
    have := Nat.eq_of_beq_eq_true h1
    subst this
    simp at hq
    obtain ⟨rfl, rfl⟩ := hq
    rw [mad_ref rfl]
    exact va_ti C.1.1 C.1.2.1 C.2.2.2.1.1.1 hI.2.2.1 hi rfl hd hk
  | false =>
    rw [h1] at hq
    cases h2 : Nat.beq a 1001 with
    | true =>
      have := Nat.eq_of_beq_eq_true h2
      subst this
      simp at hq
      obtain ⟨rfl, rfl⟩ := hq
      rw [mad_ref rfl]
      exact va_ti C.1.1 C.1.2.1 C.2.2.2.1.1.2.1 hI.2.2.1 hi rfl hd hk
    | false =>
      rw [h2] at hq
      cases h3 : Nat.ble 1050 a && Nat.ble a 1079 <;> simp [h3] at hq
theorem mRo5 {a n kd : Nat} {f : Nat → Int32} (h1 : Nat.beq a 1000 = false) (h2 : Nat.beq a 1001 = false) (hq : mRo E a = some (kd, n, f)) : kd = 5 ∧ ∃ i, i < 30 ∧ a = 1050 + i ∧ n = (mBy i).length ∧ f = fun j => (mBy i).getD j 0 := by
  unfold mRo at hq
  rw [h1, h2] at hq
  cases h3 : Nat.ble 1050 a && Nat.ble a 1079 with
  | false => simp [h3] at hq
  | true =>
    obtain ⟨q1, q2⟩ := bnd h3
    have q1 := Nat.le_of_ble_eq_true q1
    have q2 := Nat.le_of_ble_eq_true q2
    simp only [h3, cond_true, cond_false, Option.some.injEq, Prod.mk.injEq] at hq
    obtain ⟨r1, r2, r3⟩ := hq
    exact ⟨r1.symm, a - 1050, by omega, by omega, r2.symm, r3.symm⟩
theorem sn_bld {a n : Nat} {f : Nat → Int32} {i : Int32} (C : mCtx E D c5 adr vF base d M R p s m args meth c) (hd : decode M.2.1 pc = .ok (.baload, 1)) (hq : mRo E a = some (5, n, f)) (hi : vp_in i n) (k : mAt p l e R s m args below meth c Q D c5 adr vF base M h0 (pc + 1) L (.int (f i.toNatClampNeg) :: S) h) : mAt p l e R s m args below meth c Q D c5 adr vF base M h0 pc L (.int i :: .ref a :: S) h := fun ls H locs cells slots hI => by
  have hk := k ls H locs cells slots hI
  show W p l e R s m args below meth c H locs cells slots Q (F0 m pc ls (.int i :: mad adr vF a :: S.map (mlf adr vF)))
  have h1 : Nat.beq a 1000 = false := by
    cases h1 : Nat.beq a 1000 with
    | false => rfl
    | true => simp [mRo, h1] at hq
  have h2 : Nat.beq a 1001 = false := by
    cases h2 : Nat.beq a 1001 with
    | false => rfl
    | true => simp [mRo, h1, h2] at hq
  obtain ⟨-, j, hj, rfl, rfl, rfl⟩ := mRo5 h1 h2 hq
  rw [mad_ref (nbq (by omega))]
  exact va_tb C.1.1 C.1.2.1 (C.2.2.2.1.2.2.2 j hj).2.2.2.1 hI.2.2.1 hi rfl hd hk
theorem sn_alen {a kd n : Nat} {rs : List (Option Nat)} (C : mCtx E D c5 adr vF base d M R p s m args meth c) (hd : decode M.2.1 pc = .ok (.arraylength, 1)) (ha : Nat.ble a 999 = true) (hk4 : kd ≤ 4) (hq : h.1[a]? = some (kd, n, rs)) (k : mAt p l e R s m args below meth c Q D c5 adr vF base M h0 (pc + 1) L (.int (Int32.ofNat n) :: S) h) : mAt p l e R s m args below meth c Q D c5 adr vF base M h0 pc L (.ref a :: S) h := fun ls H locs cells slots hI => by
  show W p l e R s m args below meth c H locs cells slots Q (F0 m pc ls (mad adr vF a :: S.map (mlf adr vF)))
  rw [mlow ha C]
  rcases (show kd = 0 ∨ kd = 1 ∨ kd = 2 ∨ kd = 3 ∨ kd = 4 by omega) with rfl | rfl | rfl | rfl | rfl
  · exact va_alen C.1.1 C.1.2.1 C.2.1 hI.2.1.2 a 0 (mWs_get hq) rfl rfl hd (k ls H locs cells slots hI)
  · exact va_alen C.1.1 C.1.2.1 C.2.1 hI.2.1.2 a 1 (mWs_get hq) rfl rfl hd (k ls H locs cells slots hI)
  · exact va_alen C.1.1 C.1.2.1 C.2.1 hI.2.1.2 a 2 (mWs_get hq) rfl rfl hd (k ls H locs cells slots hI)
  · exact va_alen C.1.1 C.1.2.1 C.2.1 hI.2.1.2 a 3 (mWs_get hq) rfl rfl hd (k ls H locs cells slots hI)
  · exact va_alen C.1.1 C.1.2.1 C.2.1 hI.2.1.2 a 4 (mWs_get hq) rfl rfl hd (k ls H locs cells slots hI)
theorem sn_tlen {a kd n : Nat} {f : Nat → Int32} (C : mCtx E D c5 adr vF base d M R p s m args meth c) (hd : decode M.2.1 pc = .ok (.arraylength, 1)) (ha : Nat.ble a 999 = false) (hq : mRo E a = some (kd, n, f)) (k : mAt p l e R s m args below meth c Q D c5 adr vF base M h0 (pc + 1) L (.int (Int32.ofNat n) :: S) h) : mAt p l e R s m args below meth c Q D c5 adr vF base M h0 pc L (.ref a :: S) h := fun ls H locs cells slots hI => by
  have hk := k ls H locs cells slots hI
  show W p l e R s m args below meth c H locs cells slots Q (F0 m pc ls (mad adr vF a :: S.map (mlf adr vF)))
  cases h1 : Nat.beq a 1000 with
  | true =>
    simp [mRo, h1] at hq
    obtain ⟨-, rfl, rfl⟩ := hq
    have := Nat.eq_of_beq_eq_true h1
    subst this
    rw [mad_ref rfl]
    exact va_tlen C.1.1 C.1.2.1 C.2.2.2.1.1.1 hI.2.2.1 rfl hd hk
  | false =>
    cases h2 : Nat.beq a 1001 with
    | true =>
      simp [mRo, h1, h2] at hq
      obtain ⟨-, rfl, rfl⟩ := hq
      have := Nat.eq_of_beq_eq_true h2
      subst this
      rw [mad_ref rfl]
      exact va_tlen C.1.1 C.1.2.1 C.2.2.2.1.1.2.1 hI.2.2.1 rfl hd hk
    | false =>
      obtain ⟨-, j, hj, rfl, rfl, rfl⟩ := mRo5 h1 h2 hq
      rw [mad_ref (nbq (by omega))]
      exact va_tlen C.1.1 C.1.2.1 (C.2.2.2.1.2.2.2 j hj).2.2.2.1 hI.2.2.1 rfl hd hk
theorem mup_o {h' : MH} {a : Nat} {f : Nat → Int32} (e : h' = (h.1, va_up h.2.1 a f, h.2.2)) : h'.1.length = h.1.length ∧ msz h'.1 = msz h.1 ∧ (∀ i, i ≠ a → h'.1[i]? = h.1[i]? ∧ h'.2.1 i = h.2.1 i ∧ h'.2.2 i = h.2.2 i) := by
  subst e
  exact ⟨rfl, rfl, fun i hi => ⟨rfl, va_up_ne _ _ hi, rfl⟩⟩
theorem mup_l {h' : MH} {a : Nat} {f : Nat → Int64} (e : h' = (h.1, h.2.1, va_up h.2.2 a f)) : h'.1.length = h.1.length ∧ msz h'.1 = msz h.1 ∧ (∀ i, i ≠ a → h'.1[i]? = h.1[i]? ∧ h'.2.1 i = h.2.1 i ∧ h'.2.2 i = h.2.2 i) := by
  subst e
  exact ⟨rfl, rfl, fun i hi => ⟨rfl, rfl, va_up_ne _ _ hi⟩⟩
theorem sn_iast {a n : Nat} {rs : List (Option Nat)} {i x : Int32} (C : mCtx E D c5 adr vF base d M R p s m args meth c) (hd : decode M.2.1 pc = .ok (.iastore, 1)) (ha : Nat.ble a 999 = true) (hq : h.1[a]? = some (0, n, rs)) (hi : vp_in i n) (k : mAt p l e R s m args below meth c Q D c5 adr vF base M h0 (pc + 1) L S (msetA h a i.toNatClampNeg x)) : mAt p l e R s m args below meth c Q D c5 adr vF base M h0 pc L (.int x :: .int i :: .ref a :: S) h := fun ls H locs cells slots hI => by
  show W p l e R s m args below meth c H locs cells slots Q (F0 m pc ls (.int x :: .int i :: mad adr vF a :: S.map (mlf adr vF)))
  rw [mlow ha C]
  refine va_iast C.1.1 C.1.2.1 C.2.1 hI.2.1.2 mWs_D hI.2.2.1 a 0 (mWs_get hq) rfl hi hd (fun H1 locs1 hP _ hS => ?_)
  obtain ⟨o1, o2, o3⟩ := mup_o (h := h) (h' := msetA h a i.toNatClampNeg x) rfl
  have e9 := mWs_set (c5 := c5) (adr := adr) (base := base) o1 o3 (show (msetA h a i.toNatClampNeg x).1[a]? = some (0, n, rs) from hq)
  rw [show (msetA h a i.toNatClampNeg x).2.1 a = upd (h.2.1 a) i.toNatClampNeg x from va_up_self _ _ _] at e9
  exact mAfter hI o1 o2 (by rw [← e9]; exact hP) hS k
theorem sn_zast {a n : Nat} {rs : List (Option Nat)} {i x : Int32} (C : mCtx E D c5 adr vF base d M R p s m args meth c) (hd : decode M.2.1 pc = .ok (.bastore, 1)) (ha : Nat.ble a 999 = true) (hq : h.1[a]? = some (1, n, rs)) (hi : vp_in i n) (k : mAt p l e R s m args below meth c Q D c5 adr vF base M h0 (pc + 1) L S (msetA h a i.toNatClampNeg (vp_nar .boolean x))) : mAt p l e R s m args below meth c Q D c5 adr vF base M h0 pc L (.int x :: .int i :: .ref a :: S) h := fun ls H locs cells slots hI => by
  show W p l e R s m args below meth c H locs cells slots Q (F0 m pc ls (.int x :: .int i :: mad adr vF a :: S.map (mlf adr vF)))
  rw [mlow ha C]
  refine va_zast C.1.1 C.1.2.1 C.2.1 hI.2.1.2 mWs_D hI.2.2.1 a 1 (mWs_get hq) rfl hi hd (fun H1 locs1 hP _ hS => ?_)
  obtain ⟨o1, o2, o3⟩ := mup_o (h := h) (h' := msetA h a i.toNatClampNeg (vp_nar .boolean x)) rfl
  have e9 := mWs_set (c5 := c5) (adr := adr) (base := base) o1 o3 (show (msetA h a i.toNatClampNeg (vp_nar .boolean x)).1[a]? = some (1, n, rs) from hq)
  rw [show (msetA h a i.toNatClampNeg (vp_nar .boolean x)).2.1 a = upd (h.2.1 a) i.toNatClampNeg (vp_nar .boolean x) from va_up_self _ _ _] at e9
  exact mAfter hI o1 o2 (by rw [← e9]; exact hP) hS k
theorem sn_last {a n : Nat} {rs : List (Option Nat)} {i : Int32} {x : Int64} (C : mCtx E D c5 adr vF base d M R p s m args meth c) (hd : decode M.2.1 pc = .ok (.lastore, 1)) (ha : Nat.ble a 999 = true) (hq : h.1[a]? = some (2, n, rs)) (hi : vp_in i n) (k : mAt p l e R s m args below meth c Q D c5 adr vF base M h0 (pc + 1) L S (msetB h a i.toNatClampNeg x)) : mAt p l e R s m args below meth c Q D c5 adr vF base M h0 pc L (.long x :: .int i :: .ref a :: S) h := fun ls H locs cells slots hI => by
  show W p l e R s m args below meth c H locs cells slots Q (F0 m pc ls (.long x :: .int i :: mad adr vF a :: S.map (mlf adr vF)))
  rw [mlow ha C]
  refine va_last C.1.1 C.1.2.1 C.2.1 hI.2.1.2 mWs_D hI.2.2.1 a 2 (mWs_get hq) rfl hi hd (fun H1 locs1 hP _ hS => ?_)
  obtain ⟨o1, o2, o3⟩ := mup_l (h := h) (h' := msetB h a i.toNatClampNeg x) rfl
  have e9 := mWs_set (c5 := c5) (adr := adr) (base := base) o1 o3 (show (msetB h a i.toNatClampNeg x).1[a]? = some (2, n, rs) from hq)
  rw [show (msetB h a i.toNatClampNeg x).2.2 a = vp_updL (h.2.2 a) i.toNatClampNeg x from va_up_self _ _ _] at e9
  exact mAfter hI o1 o2 (by rw [← e9]; exact hP) hS k
end HEAP
