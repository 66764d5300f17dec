/-! deed, deedOf, meet -/
theorem dIx (j q : Nat) (h : q = 75 + 2 * j) : 75 + 2 * nI j = nI q := by
  subst h
  rw [show (2 : Int32) * nI j = nI (2 * j) from pk_mul 2 j, show (75 : Int32) + nI (2 * j) = nI (75 + 2 * j) from nI_add 75 (2 * j)]
theorem dIx1 (j q : Nat) (h : q = 76 + 2 * j) : 75 + 2 * nI j + 1 = nI q := by
  rw [dIx j (75 + 2 * j) rfl, nI_1]
  congr 1
  omega
theorem w_tell {E : ME} {d : Nat} {ln pt : Int32} {A : Nat → Nat → Int32} {B : Nat → Nat → Int64} {K : MK} {k : Nat} (hk : k < 10) (hx : A 10 0 = nI k) (hK : K (some (.int (nI k))) (SH, va_up (va_up (va_up A 11 (upd (A 11) k ln)) 12 (upd (A 12) k pt)) 10 (upd (A 10) 0 (nI (k + 1))), B)) : mCall E d nX0_tell [.ref 10, .int ln, .int pt] (SH, A, B) K := by
  have e8 : k = (A 10 0).toNatClampNeg := by rw [hx, nI_clamp (by omega)]
  have hv : vp_in (A 10 0) 10 := by rw [hx]; exact vp_in_nI hk (by decide)
  have e7 : A 10 0 + 1 - 1 = nI k := by rw [hx]; grind
  have e6 : nI (k + 1) = A 10 0 + 1 := by rw [hx]; exact (nI_1 k).symm
  rw [← e7, e6, e8] at hK
  refine mCall_sem MX0_tell rfl rfl (Or.inl ⟨rfl, rfl, rfl⟩) rfl (mSem_wp MX0_tell rfl aX0_tell 300 [] (fun cl ax hcl hax => ?_))
  refine ⟨hv, ?_⟩
  refine ⟨hv, ?_⟩
  exact hK
theorem rAll_deed {A : Nat → Nat → Int32} {B : Nat → Nat → Int64} (h : rAll A B) {k : Nat} (hk : k < 10) (hx : A 10 0 = nI k) (hm : A 75 4 = nI k) {ln pt : Int32} (q2 : 0 ≤ ln ∧ ln ≤ 8) : rAll (va_up (va_up (va_up (va_up A 11 (upd (A 11) k ln)) 12 (upd (A 12) k pt)) 10 (upd (A 10) 0 (nI (k + 1)))) 75 (upd (upd (upd (A 75) (75 + 2 * k) ln) (76 + 2 * k) pt) 4 (nI (k + 1)))) B := by
  obtain ⟨⟨hi, hh, hd', hs⟩, hk9, hf, ht, hsh⟩ := h
  have n : ∀ q, q ≠ 4 → ¬ (75 + 2 * k ≤ q ∧ q < 77 + 2 * k) → upd (upd (upd (A 75) (75 + 2 * k) ln) (76 + 2 * k) pt) 4 (nI (k + 1)) q = A 75 q := fun q a b => by
    rw [ud_n a, ud_n (by omega), ud_n (by omega)]
  refine ⟨⟨rIce_c hi rfl rfl (fun q hq => n q (by omega) (by omega)), rHou_c hh rfl rfl rfl rfl rfl rfl (fun q hq => n q (by omega) (by omega)), ?_, rSta_c hs rfl rfl rfl rfl rfl (fun q hq => n q (by omega) (by omega))⟩, hk9, hf, ht, hsh⟩
  · obtain ⟨k', k1, k2, k3, k4⟩ := hd'
    have : k' = k := (nI_eq (by omega) (by omega)).mp (k3.symm.trans hm)
    subst this
    refine ⟨k' + 1, by omega, rfl, rfl, fun j hj => ?_⟩
    by_cases hjk : j = k'
    · subst hjk
      have m0 : upd (upd (upd (A 75) (75 + 2 * j) ln) (76 + 2 * j) pt) 4 (nI (j + 1)) (75 + 2 * j) = ln := by
        rw [ud_n (by omega), ud_n (by omega), ud_s]
      have m1 : upd (upd (upd (A 75) (75 + 2 * j) ln) (76 + 2 * j) pt) 4 (nI (j + 1)) (76 + 2 * j) = pt := by
        rw [ud_n (by omega), ud_s]
      simp only [va_up, Nat.reduceEqDiff, reduceIte, m0, m1, ud_s]
      exact ⟨⟨trivial, trivial⟩, q2⟩
    · have k5 := k4 j (by omega)
      have m0 := n (75 + 2 * j) (by omega) (by omega)
      have m1 := n (76 + 2 * j) (by omega) (by omega)
      simp only [va_up, Nat.reduceEqDiff, reduceIte, m0, m1, ud_n hjk]
      exact k5
theorem op_deed {E : ME} {v u : Int32} {A : Nat → Nat → Int32} {B : Nat → Nat → Int64} (h : rAll A B) : rOp E nX8_deed nX9_deed [.int v, .int u] A B := by
  obtain ⟨k, k12, kx, km, kh⟩ := rHou_at h.1.2.1
  obtain ⟨t, t10, tx, tm, th⟩ := h.1.2.2.1
  refine rOp_of (fun K hK => ?_)
  refine mCall_sem MX8_deed rfl rfl (Or.inl ⟨rfl, rfl, rfl⟩) rfl (mSem_wp MX8_deed rfl aX8_deed 300 [] (fun cl ax hcl hax => ?_))
  refine hcl _ _ _ _ (w_X8_isHouse kx (fun a1 a2 => ?_) (fun a0 => ?_))
  · refine ⟨fun h9 => absurd h9 (by decide), fun _ => ?_⟩
    refine hcl _ _ _ _ (w_X8 (fun b1 b2 => ?_) (fun b0 => ?_))
    · refine ⟨fun _ => ?_, fun h9 => absurd h9 (by decide)⟩
      obtain ⟨j, hj, rfl⟩ := ho_ix k12 a1 a2
      have kj := kh j hj
      have e8 : (nI j).toNatClampNeg = j := nI_clamp (by omega)
      have hv : vp_in (nI j) 12 := vp_in_nI (by omega) (by decide)
      refine ⟨hv, ?_⟩
      refine ⟨fun (c : A 9 (nI j).toNatClampNeg = 0) => ?_, fun (c : ¬ A 9 (nI j).toNatClampNeg = 0) => ?_⟩
      · rw [e8] at c
        refine ⟨fun (c2 : A 10 0 < 10) => ?_, fun (c2 : ¬ A 10 0 < 10) => ?_⟩
        · rw [tx] at c2
          have hk : t < 10 := (nI_ltI (b := 10) (by omega) (by decide)).mp c2
          refine ⟨hv, ?_⟩
          refine ⟨hv, ?_⟩
          have e6 : (SH, A, B).2.1 6 (nI j).toNatClampNeg = A 75 (16 + 5 * j) := by rw [e8]; exact kj.1.2.1
          have e7 : (SH, A, B).2.1 7 (nI j).toNatClampNeg = A 75 (17 + 5 * j) := by rw [e8]; exact kj.1.2.2.1
          rw [e6, e7]
          refine hcl _ _ _ _ (w_tell hk tx ?_)
          refine hK _ _ ?_
          clear hcl hax
          clear cl ax
          refine mCall_k (fun K hK => ?_)
          refine mCall_sem MX9_deed rfl rfl (Or.inl ⟨rfl, rfl, rfl⟩) rfl (mSem_wp MX9_deed rfl aX9_deed 300 [] (fun cl ax hcl hax => ?_))
          first | refine hcl _ _ _ _ (w_X9_isHouse (n := nI k) km (fun c1 c2 => absurd (And.intro c1 c2) (by assumption)) (fun _ => ?_)) | refine hcl _ _ _ _ (w_X9_isHouse (n := nI k) km (fun _ _ => ?_) (fun c0 => absurd (And.intro (by assumption) (by assumption)) c0))
          refine ⟨fun h9 => absurd h9 (by decide), fun _ => ?_⟩
          first | refine hcl _ _ _ _ (w_X9 (fun c1 c2 => absurd (And.intro c1 c2) (by assumption)) (fun _ => ?_)) | refine hcl _ _ _ _ (w_X9 (fun _ _ => ?_) (fun c0 => absurd (And.intro (by assumption) (by assumption)) c0))
          refine ⟨fun _ => ?_, fun h9 => absurd h9 (by decide)⟩
          refine hcl _ _ _ _ (w_isGone j (by omega) (fun (c2 : A 75 _ = 1) => by exfalso; grind) (fun _ => ?_))
          refine ⟨fun _ => ?_, fun h9 => absurd h9 (by decide)⟩
          refine ⟨vl 4 rfl rfl, ?_⟩
          refine ⟨fun (c2 : ¬ A 75 4 = 10) => ?_, fun (c2 : A 75 4 = 10) => by exfalso; rw [tm] at c2; grind⟩
          refine hcl _ _ _ _ (w_houseIs (16 + 5 * j) (by omega) (hIx j 1 _ (by omega)) ?_)
          have i0 : (75 : Int32) + 2 * A 75 4 = nI (75 + 2 * t) := by rw [tm]; exact dIx t _ rfl
          have i1 : (75 : Int32) + 2 * A 75 4 + 1 = nI (76 + 2 * t) := by rw [tm]; exact dIx1 t _ rfl
          have hv0 : vp_in (75 + 2 * A 75 4) 135 := by rw [i0]; exact vp_in_nI (N := 135) (by omega) (by decide)
          have hv1 : vp_in (75 + 2 * A 75 4 + 1) 135 := by rw [i1]; exact vp_in_nI (N := 135) (by omega) (by decide)
          have ei0 : (75 + 2 * A 75 4).toNatClampNeg = 75 + 2 * t := by rw [i0]; exact nI_clamp (by omega)
          have ei1 : (75 + 2 * A 75 4 + 1).toNatClampNeg = 76 + 2 * t := by rw [i1]; exact nI_clamp (by omega)
          refine ⟨hv0, ?_⟩
          refine hcl _ _ _ _ (w_houseIs (17 + 5 * j) (by omega) (hIx j 2 _ (by omega)) ?_)
          refine ⟨hv1, ?_⟩
          refine ⟨vl 4 rfl rfl, ?_⟩
          refine ⟨vl 4 rfl rfl, ?_⟩
          have e4 : (4 : Int32).toNatClampNeg = 4 := rfl
          conv => whnf
          have key : K (some (Value.int (A 75 4))) (SH, va_up (va_up (va_up (va_up A 11 (upd (A 11) t (A 75 (16 + 5 * j)))) 12 (upd (A 12) t (A 75 (17 + 5 * j) + u))) 10 (upd (A 10) 0 (nI (t + 1)))) 75 (upd (upd (upd (A 75) (75 + 2 * t) (A 75 (16 + 5 * j))) (76 + 2 * t) (A 75 (17 + 5 * j) + u)) 4 (nI (t + 1))), B) := hK _ _ ⟨by rw [tm], rfl, rAll_deed h hk tx tm kj.2.2.1⟩
          have ea : ∀ A' : Nat → Nat → Int32, A' 75 = A 75 → upd (A' 75) (75 + 2 * A 75 4).toNatClampNeg (A 75 (16 + 5 * j)) (17 + 5 * j) = A 75 (17 + 5 * j) := fun A' q => by rw [ei0, ud_n (by omega), q]
          have eb : upd (upd (A 75) (75 + 2 * t) (A 75 (16 + 5 * j))) (76 + 2 * t) (A 75 (17 + 5 * j) + u) 4 + 1 = nI (t + 1) := by
            rw [ud_n (by omega), ud_n (by omega), tm, nI_1]
          have et : va_up (va_up (va_up A 11 (upd (A 11) t (A 75 (16 + 5 * j)))) 12 (upd (A 12) t (A 75 (17 + 5 * j) + u))) 10 (upd (A 10) 0 (nI (t + 1))) 75 = A 75 := rfl
          simp only [msetA, e4, up_s, bx_uu, et, ei0, ei1, ud_n (show 17 + 5 * j ≠ 75 + 2 * t by omega), eb]
          exact key
        · rw [tx] at c2
          have hk : t = 10 := by
            rcases Nat.lt_or_ge t 10 with q | q
            · exact absurd ((nI_ltI (b := 10) (by omega) (by decide)).mpr q) c2
            · omega
          subst hk
          refine hcl _ _ _ _ (w_X8_refuse 1 (by decide) (by decide) ?_)
          refine hK _ _ ?_
          clear hcl hax
          clear cl ax
          refine mCall_k (fun K hK => ?_)
          refine mCall_sem MX9_deed rfl rfl (Or.inl ⟨rfl, rfl, rfl⟩) rfl (mSem_wp MX9_deed rfl aX9_deed 300 [] (fun cl ax hcl hax => ?_))
          first | refine hcl _ _ _ _ (w_X9_isHouse (n := nI k) km (fun c1 c2 => absurd (And.intro c1 c2) (by assumption)) (fun _ => ?_)) | refine hcl _ _ _ _ (w_X9_isHouse (n := nI k) km (fun _ _ => ?_) (fun c0 => absurd (And.intro (by assumption) (by assumption)) c0))
          refine ⟨fun h9 => absurd h9 (by decide), fun _ => ?_⟩
          first | refine hcl _ _ _ _ (w_X9 (fun c1 c2 => absurd (And.intro c1 c2) (by assumption)) (fun _ => ?_)) | refine hcl _ _ _ _ (w_X9 (fun _ _ => ?_) (fun c0 => absurd (And.intro (by assumption) (by assumption)) c0))
          refine ⟨fun _ => ?_, fun h9 => absurd h9 (by decide)⟩
          refine hcl _ _ _ _ (w_isGone j (by omega) (fun (c2 : A 75 _ = 1) => by exfalso; grind) (fun _ => ?_))
          refine ⟨fun _ => ?_, fun h9 => absurd h9 (by decide)⟩
          refine ⟨vl 4 rfl rfl, ?_⟩
          refine ⟨fun (c2 : ¬ A 75 4 = 10) => absurd tm c2, fun _ => ?_⟩
          exact hcl _ _ _ _ (w_X9_finding 1 (by decide) (by decide) (hK _ _ (rEnd_cnt h (by decide))))
      · rw [e8] at c
        refine hcl _ _ _ _ (w_X8_refuse 4 (by decide) (by decide) ?_)
        refine hK _ _ ?_
        clear hcl hax
        clear cl ax
        refine mCall_k (fun K hK => ?_)
        refine mCall_sem MX9_deed rfl rfl (Or.inl ⟨rfl, rfl, rfl⟩) rfl (mSem_wp MX9_deed rfl aX9_deed 300 [] (fun cl ax hcl hax => ?_))
        first | refine hcl _ _ _ _ (w_X9_isHouse (n := nI k) km (fun c1 c2 => absurd (And.intro c1 c2) (by assumption)) (fun _ => ?_)) | refine hcl _ _ _ _ (w_X9_isHouse (n := nI k) km (fun _ _ => ?_) (fun c0 => absurd (And.intro (by assumption) (by assumption)) c0))
        refine ⟨fun h9 => absurd h9 (by decide), fun _ => ?_⟩
        first | refine hcl _ _ _ _ (w_X9 (fun c1 c2 => absurd (And.intro c1 c2) (by assumption)) (fun _ => ?_)) | refine hcl _ _ _ _ (w_X9 (fun _ _ => ?_) (fun c0 => absurd (And.intro (by assumption) (by assumption)) c0))
        refine ⟨fun _ => ?_, fun h9 => absurd h9 (by decide)⟩
        refine hcl _ _ _ _ (w_isGone j (by omega) (fun _ => ?_) (fun (c2 : ¬ A 75 _ = 1) => by exfalso; grind))
        refine ⟨fun h9 => absurd h9 (by decide), fun _ => ?_⟩
        exact hcl _ _ _ _ (w_X9_finding 4 (by decide) (by decide) (hK _ _ (rEnd_cnt h (by decide))))
    · refine ⟨fun h9 => absurd h9 (by decide), fun _ => ?_⟩
      refine hcl _ _ _ _ (w_X8_refuse 0 (by decide) (by decide) ?_)
      refine hK _ _ ?_
      clear hcl hax
      clear cl ax
      refine mCall_k (fun K hK => ?_)
      refine mCall_sem MX9_deed rfl rfl (Or.inl ⟨rfl, rfl, rfl⟩) rfl (mSem_wp MX9_deed rfl aX9_deed 300 [] (fun cl ax hcl hax => ?_))
      repeat (first | exact hcl _ _ _ _ (w_X9_finding 0 (by decide) (by decide) (hK _ _ (rEnd_cnt h (by decide)))) | refine ⟨fun _ => ?_, fun h9 => absurd h9 (by decide)⟩ | refine ⟨fun h9 => absurd h9 (by decide), fun _ => ?_⟩ | (first | refine hcl _ _ _ _ (w_X9_isHouse (n := nI k) km (fun c1 c2 => absurd (And.intro c1 c2) (by assumption)) (fun _ => ?_)) | refine hcl _ _ _ _ (w_X9_isHouse (n := nI k) km (fun _ _ => ?_) (fun c0 => absurd (And.intro (by assumption) (by assumption)) c0))) | (first | refine hcl _ _ _ _ (w_X9 (fun c1 c2 => absurd (And.intro c1 c2) (by assumption)) (fun _ => ?_)) | refine hcl _ _ _ _ (w_X9 (fun _ _ => ?_) (fun c0 => absurd (And.intro (by assumption) (by assumption)) c0))))
  · refine ⟨fun _ => ?_, fun h9 => absurd h9 (by decide)⟩
    refine hcl _ _ _ _ (w_X8_refuse 0 (by decide) (by decide) ?_)
    refine hK _ _ ?_
    clear hcl hax
    clear cl ax
    refine mCall_k (fun K hK => ?_)
    refine mCall_sem MX9_deed rfl rfl (Or.inl ⟨rfl, rfl, rfl⟩) rfl (mSem_wp MX9_deed rfl aX9_deed 300 [] (fun cl ax hcl hax => ?_))
    repeat (first | exact hcl _ _ _ _ (w_X9_finding 0 (by decide) (by decide) (hK _ _ (rEnd_cnt h (by decide)))) | refine ⟨fun _ => ?_, fun h9 => absurd h9 (by decide)⟩ | refine ⟨fun h9 => absurd h9 (by decide), fun _ => ?_⟩ | (first | refine hcl _ _ _ _ (w_X9_isHouse (n := nI k) km (fun c1 c2 => absurd (And.intro c1 c2) (by assumption)) (fun _ => ?_)) | refine hcl _ _ _ _ (w_X9_isHouse (n := nI k) km (fun _ _ => ?_) (fun c0 => absurd (And.intro (by assumption) (by assumption)) c0))) | (first | refine hcl _ _ _ _ (w_X9 (fun c1 c2 => absurd (And.intro c1 c2) (by assumption)) (fun _ => ?_)) | refine hcl _ _ _ _ (w_X9 (fun _ _ => ?_) (fun c0 => absurd (And.intro (by assumption) (by assumption)) c0))))
theorem w_X0_placeOf {E : ME} {d : Nat} {A : Nat → Nat → Int32} {B : Nat → Nat → Int64} {K : MK} {j : Nat} (hj : j < 10) (hK : K (some (.int (mn (A 12 j) (A 2 0)))) (SH, A, B)) : mCall E (d + 1) nX0_placeOf [.ref 10, .int (nI j), .ref 2] (SH, A, B) K := by
  have e8 : j = (nI j).toNatClampNeg := (nI_clamp (by omega)).symm
  rw [e8] at hK
  refine mCall_sem MX0_placeOf rfl rfl (Or.inl ⟨rfl, rfl, rfl⟩) rfl (mSem_wp MX0_placeOf rfl aX0_placeOf 300 [] (fun cl ax hcl hax => ?_))
  refine ⟨vp_in_nI (N := 10) (by omega) (by decide), ?_⟩
  exact hK
theorem w_X9_placeOf {E : ME} {d : Nat} {A : Nat → Nat → Int32} {B : Nat → Nat → Int64} {K : MK} {j : Nat} (hj : j < 10) (hK : K (some (.int (mn (A 75 0) (A 75 (76 + 2 * j))))) (SH, A, B)) : mCall E (d + 1) nX9_placeOf [.ref 74, .int (nI j)] (SH, A, B) K := by
  have e8 : 76 + 2 * j = (75 + 2 * nI j + 1).toNatClampNeg := by rw [dIx1 j _ rfl, nI_clamp (by omega)]
  rw [e8] at hK
  refine mCall_sem MX9_placeOf rfl rfl (Or.inl ⟨rfl, rfl, rfl⟩) rfl (mSem_wp MX9_placeOf rfl aX9_placeOf 300 [] (fun cl ax hcl hax => ?_))
  refine ⟨vl 0 rfl rfl, ?_⟩
  refine ⟨by rw [dIx1 j _ rfl]; exact vp_in_nI (N := 135) (by omega) (by decide), ?_⟩
  exact hK
theorem mn_c (a b : Int32) : mn a b = mn b a := by unfold mn; grind
theorem do_ix {v : Int32} {k : Nat} (hk : k ≤ 10) (h0 : 0 ≤ v) (h1 : v ≤ nI k - 1) : ∃ j, j < k ∧ v = nI j := ho_ix (by omega) h0 h1
theorem op_deedOf {E : ME} {v u : Int32} {A : Nat → Nat → Int32} {B : Nat → Nat → Int64} (h : rAll A B) : rOp E nX8_deedOf nX9_deedOf [.int v, .int u] A B := by
  obtain ⟨t, t10, tx, tm, th⟩ := h.1.2.2.1
  have hice := h.1.1
  refine rOp_of (fun K hK => ?_)
  refine mCall_sem MX8_deedOf rfl rfl (Or.inl ⟨rfl, rfl, rfl⟩) rfl (mSem_wp MX8_deedOf rfl aX8_deedOf 300 [] (fun cl ax hcl hax => ?_))
  refine hcl _ _ _ _ (w_X8_isDeed tx (fun a1 a2 => ?_) (fun a0 => ?_))
  · refine ⟨fun _ => ?_, fun h9 => absurd h9 (by decide)⟩
    obtain ⟨j, hj, rfl⟩ := do_ix t10 a1 a2
    have tj := th j hj
    have e8 : (nI j).toNatClampNeg = j := nI_clamp (by omega)
    refine ⟨fun (c : u = 0) => ?_, fun (c0 : ¬ u = 0) => ⟨fun (c : u = 1) => ?_, fun (c1 : ¬ u = 1) => ?_⟩⟩
    · subst c
      refine ⟨vp_in_nI (N := 10) (by omega) (by decide), ?_⟩
      refine hK _ _ ?_
      clear hcl hax
      clear cl ax
      refine mCall_k (fun K hK => ?_)
      refine mCall_sem MX9_deedOf rfl rfl (Or.inl ⟨rfl, rfl, rfl⟩) rfl (mSem_wp MX9_deedOf rfl aX9_deedOf 300 [] (fun cl ax hcl hax => ?_))
      first | refine hcl _ _ _ _ (w_X9_isDeed (n := nI t) tm (fun c1 c2 => absurd (And.intro c1 c2) (by assumption)) (fun _ => ?_)) | refine hcl _ _ _ _ (w_X9_isDeed (n := nI t) tm (fun _ _ => ?_) (fun c0 => absurd (And.intro (by assumption) (by assumption)) c0))
      refine ⟨fun h9 => absurd h9 (by decide), fun _ => ?_⟩
      refine hcl _ _ _ _ (w_X9 (fun _ _ => ?_) (fun c0 => absurd (by decide) c0))
      refine ⟨fun _ => ?_, fun h9 => absurd h9 (by decide)⟩
      refine ⟨fun h9 => absurd h9 (by decide), fun _ => ?_⟩
      refine ⟨by rw [dIx j _ rfl]; exact vp_in_nI (N := 135) (by omega) (by decide), ?_⟩
      refine hK _ _ ⟨?_, rfl, h⟩
      show some (Value.int (A 11 (nI j).toNatClampNeg)) = some (Value.int (A 75 (75 + 2 * nI j).toNatClampNeg))
      rw [dIx j _ rfl, nI_clamp (by omega), nI_clamp (by omega), tj.1.1]
    · subst c
      refine hcl _ _ _ _ (w_X0_placeOf (by omega) ?_)
      refine hK _ _ ?_
      clear hcl hax
      clear cl ax
      refine mCall_k (fun K hK => ?_)
      refine mCall_sem MX9_deedOf rfl rfl (Or.inl ⟨rfl, rfl, rfl⟩) rfl (mSem_wp MX9_deedOf rfl aX9_deedOf 300 [] (fun cl ax hcl hax => ?_))
      first | refine hcl _ _ _ _ (w_X9_isDeed (n := nI t) tm (fun c1 c2 => absurd (And.intro c1 c2) (by assumption)) (fun _ => ?_)) | refine hcl _ _ _ _ (w_X9_isDeed (n := nI t) tm (fun _ _ => ?_) (fun c0 => absurd (And.intro (by assumption) (by assumption)) c0))
      refine ⟨fun h9 => absurd h9 (by decide), fun _ => ?_⟩
      refine hcl _ _ _ _ (w_X9 (fun _ _ => ?_) (fun c0 => absurd (by decide) c0))
      refine ⟨fun _ => ?_, fun h9 => absurd h9 (by decide)⟩
      refine ⟨fun _ => ?_, fun h9 => absurd h9 (by decide)⟩
      refine hcl _ _ _ _ (w_X9_placeOf (by omega) ?_)
      refine hK _ _ ⟨?_, rfl, h⟩
      rw [mn_c, tj.1.2, hice.1.1]
    · refine hcl _ _ _ _ (w_X8_refuse 0 (by decide) (by decide) ?_)
      refine hK _ _ ?_
      clear hcl hax
      clear cl ax
      refine mCall_k (fun K hK => ?_)
      refine mCall_sem MX9_deedOf rfl rfl (Or.inl ⟨rfl, rfl, rfl⟩) rfl (mSem_wp MX9_deedOf rfl aX9_deedOf 300 [] (fun cl ax hcl hax => ?_))
      first | refine hcl _ _ _ _ (w_X9_isDeed (n := nI t) tm (fun c1 c2 => absurd (And.intro c1 c2) (by assumption)) (fun _ => ?_)) | refine hcl _ _ _ _ (w_X9_isDeed (n := nI t) tm (fun _ _ => ?_) (fun c0 => absurd (And.intro (by assumption) (by assumption)) c0))
      refine ⟨fun h9 => absurd h9 (by decide), fun _ => ?_⟩
      refine hcl _ _ _ _ (w_X9 (fun c2 c3 => by exfalso; grind) (fun _ => ?_))
      refine ⟨fun h9 => absurd h9 (by decide), fun _ => ?_⟩
      exact hcl _ _ _ _ (w_X9_finding 0 (by decide) (by decide) (hK _ _ (rEnd_cnt h (by decide))))
  · refine ⟨fun h9 => absurd h9 (by decide), fun _ => ?_⟩
    refine hcl _ _ _ _ (w_X8_refuse 0 (by decide) (by decide) ?_)
    refine hK _ _ ?_
    clear hcl hax
    clear cl ax
    refine mCall_k (fun K hK => ?_)
    refine mCall_sem MX9_deedOf rfl rfl (Or.inl ⟨rfl, rfl, rfl⟩) rfl (mSem_wp MX9_deedOf rfl aX9_deedOf 300 [] (fun cl ax hcl hax => ?_))
    repeat (first | exact hcl _ _ _ _ (w_X9_finding 0 (by decide) (by decide) (hK _ _ (rEnd_cnt h (by decide)))) | refine ⟨fun _ => ?_, fun h9 => absurd h9 (by decide)⟩ | refine ⟨fun h9 => absurd h9 (by decide), fun _ => ?_⟩ | (first | refine hcl _ _ _ _ (w_X9_isDeed (n := nI t) tm (fun c1 c2 => absurd (And.intro c1 c2) (by assumption)) (fun _ => ?_)) | refine hcl _ _ _ _ (w_X9_isDeed (n := nI t) tm (fun _ _ => ?_) (fun c0 => absurd (And.intro (by assumption) (by assumption)) c0))) | (first | refine hcl _ _ _ _ (w_X9 (fun c1 c2 => absurd (And.intro c1 c2) (by assumption)) (fun _ => ?_)) | refine hcl _ _ _ _ (w_X9 (fun _ _ => ?_) (fun c0 => absurd (And.intro (by assumption) (by assumption)) c0))))
theorem op_meet {E : ME} {v u w : Int32} {A : Nat → Nat → Int32} {B : Nat → Nat → Int64} (h : rAll A B) : rOp E nX8_meet nX9_meet [.int v, .int u, .int w] A B := by
  obtain ⟨t, t10, tx, tm, th⟩ := h.1.2.2.1
  have hice := h.1.1
  refine rOp_of (fun K hK => ?_)
  refine mCall_sem MX8_meet rfl rfl (Or.inl ⟨rfl, rfl, rfl⟩) rfl (mSem_wp MX8_meet rfl aX8_meet 300 [] (fun cl ax hcl hax => ?_))
  refine hcl _ _ _ _ (w_X8_isDeed tx (fun a1 a2 => ?_) (fun a0 => ?_))
  · refine ⟨fun h9 => absurd h9 (by decide), fun _ => ?_⟩
    refine hcl _ _ _ _ (w_X8_isDeed tx (fun b1 b2 => ?_) (fun b0 => ?_))
    · refine ⟨fun h9 => absurd h9 (by decide), fun _ => ?_⟩
      refine ⟨fun (c : v = u) => ?_, fun (c : ¬ v = u) => ?_⟩
      · refine hcl _ _ _ _ (w_X8_refuse 0 (by decide) (by decide) ?_)
        refine hK _ _ ?_
        clear hcl hax
        clear cl ax
        refine mCall_k (fun K hK => ?_)
        refine mCall_sem MX9_meet rfl rfl (Or.inl ⟨rfl, rfl, rfl⟩) rfl (mSem_wp MX9_meet rfl aX9_meet 300 [] (fun cl ax hcl hax => ?_))
        first | refine hcl _ _ _ _ (w_X9_isDeed (n := nI t) tm (fun c1 c2 => absurd (And.intro c1 c2) (by assumption)) (fun _ => ?_)) | refine hcl _ _ _ _ (w_X9_isDeed (n := nI t) tm (fun _ _ => ?_) (fun c0 => absurd (And.intro (by assumption) (by assumption)) c0))
        refine ⟨fun h9 => absurd h9 (by decide), fun _ => ?_⟩
        first | refine hcl _ _ _ _ (w_X9_isDeed (n := nI t) tm (fun c1 c2 => absurd (And.intro c1 c2) (by assumption)) (fun _ => ?_)) | refine hcl _ _ _ _ (w_X9_isDeed (n := nI t) tm (fun _ _ => ?_) (fun c0 => absurd (And.intro (by assumption) (by assumption)) c0))
        refine ⟨fun h9 => absurd h9 (by decide), fun _ => ?_⟩
        refine ⟨fun _ => ?_, fun c2 => absurd c c2⟩
        exact hcl _ _ _ _ (w_X9_finding 0 (by decide) (by decide) (hK _ _ (rEnd_cnt h (by decide))))
      refine hcl _ _ _ _ (w_X8 (fun d1 d2 => ?_) (fun d0 => ?_))
      · refine ⟨fun _ => ?_, fun h9 => absurd h9 (by decide)⟩
        obtain ⟨j, hj, rfl⟩ := do_ix t10 a1 a2
        obtain ⟨i, hi, rfl⟩ := do_ix t10 b1 b2
        have tj := th j hj
        have ti := th i hi
        have e8 : (nI j).toNatClampNeg = j := nI_clamp (by omega)
        have e9 : (nI i).toNatClampNeg = i := nI_clamp (by omega)
        have f8 : (75 + 2 * nI j).toNatClampNeg = 75 + 2 * j := by rw [dIx j _ rfl, nI_clamp (by omega)]
        have f9 : (75 + 2 * nI i).toNatClampNeg = 75 + 2 * i := by rw [dIx i _ rfl, nI_clamp (by omega)]
        have v8 : vp_in (75 + 2 * nI j) 135 := by rw [dIx j _ rfl]; exact vp_in_nI (N := 135) (by omega) (by decide)
        have v9 : vp_in (75 + 2 * nI i) 135 := by rw [dIx i _ rfl]; exact vp_in_nI (N := 135) (by omega) (by decide)
        refine ⟨vp_in_nI (N := 10) (by omega) (by decide), ?_⟩
        refine ⟨vp_in_nI (N := 10) (by omega) (by decide), ?_⟩
        refine ⟨fun (c3 : A 11 (nI j).toNatClampNeg = A 11 (nI i).toNatClampNeg) => ?_, fun (c3 : ¬ A 11 (nI j).toNatClampNeg = A 11 (nI i).toNatClampNeg) => ?_⟩
        · rw [e8, e9, tj.1.1, ti.1.1] at c3
          refine hcl _ _ _ _ (w_X0_placeOf (by omega) ?_)
          refine hcl _ _ _ _ (w_X0_placeOf (by omega) ?_)
          have ee : ab (mn (A 12 j) (A 2 0) - mn (A 12 i) (A 2 0)) = ab (mn (A 75 0) (A 75 (76 + 2 * j)) - mn (A 75 0) (A 75 (76 + 2 * i))) := by
            rw [mn_c (A 12 j) (A 2 0), mn_c (A 12 i) (A 2 0), tj.1.2, ti.1.2, hice.1.1]
          refine ⟨fun (c4 : w < ab _) => ?_, fun (c4 : ¬ w < ab _) => ?_⟩
          · rw [ee] at c4
            refine hK _ _ ?_
            clear hcl hax
            clear cl ax
            refine mCall_k (fun K hK => ?_)
            refine mCall_sem MX9_meet rfl rfl (Or.inl ⟨rfl, rfl, rfl⟩) rfl (mSem_wp MX9_meet rfl aX9_meet 300 [] (fun cl ax hcl hax => ?_))
            first | refine hcl _ _ _ _ (w_X9_isDeed (n := nI t) tm (fun c1 c2 => absurd (And.intro c1 c2) (by assumption)) (fun _ => ?_)) | refine hcl _ _ _ _ (w_X9_isDeed (n := nI t) tm (fun _ _ => ?_) (fun c0 => absurd (And.intro (by assumption) (by assumption)) c0))
            refine ⟨fun h9 => absurd h9 (by decide), fun _ => ?_⟩
            first | refine hcl _ _ _ _ (w_X9_isDeed (n := nI t) tm (fun c1 c2 => absurd (And.intro c1 c2) (by assumption)) (fun _ => ?_)) | refine hcl _ _ _ _ (w_X9_isDeed (n := nI t) tm (fun _ _ => ?_) (fun c0 => absurd (And.intro (by assumption) (by assumption)) c0))
            refine ⟨fun h9 => absurd h9 (by decide), fun _ => ?_⟩
            refine ⟨fun c2 => absurd c2 c, fun _ => ?_⟩
            first | refine hcl _ _ _ _ (w_X9 (fun c1 c2 => absurd (And.intro c1 c2) (by assumption)) (fun _ => ?_)) | refine hcl _ _ _ _ (w_X9 (fun _ _ => ?_) (fun c0 => absurd (And.intro (by assumption) (by assumption)) c0))
            refine ⟨fun _ => ?_, fun h9 => absurd h9 (by decide)⟩
            refine ⟨v8, ?_⟩
            refine ⟨v9, ?_⟩
            refine ⟨fun (c5 : ¬ A 75 (75 + 2 * nI j).toNatClampNeg = A 75 (75 + 2 * nI i).toNatClampNeg) => absurd c3 (by rw [f8, f9] at c5; exact c5), fun _ => ?_⟩
            refine hcl _ _ _ _ (w_X9_placeOf (by omega) ?_)
            refine hcl _ _ _ _ (w_X9_placeOf (by omega) ?_)
            refine ⟨fun _ => ?_, fun c6 => absurd c4 c6⟩
            exact hK _ _ ⟨rfl, rfl, h⟩
          · rw [ee] at c4
            refine hK _ _ ?_
            clear hcl hax
            clear cl ax
            refine mCall_k (fun K hK => ?_)
            refine mCall_sem MX9_meet rfl rfl (Or.inl ⟨rfl, rfl, rfl⟩) rfl (mSem_wp MX9_meet rfl aX9_meet 300 [] (fun cl ax hcl hax => ?_))
            first | refine hcl _ _ _ _ (w_X9_isDeed (n := nI t) tm (fun c1 c2 => absurd (And.intro c1 c2) (by assumption)) (fun _ => ?_)) | refine hcl _ _ _ _ (w_X9_isDeed (n := nI t) tm (fun _ _ => ?_) (fun c0 => absurd (And.intro (by assumption) (by assumption)) c0))
            refine ⟨fun h9 => absurd h9 (by decide), fun _ => ?_⟩
            first | refine hcl _ _ _ _ (w_X9_isDeed (n := nI t) tm (fun c1 c2 => absurd (And.intro c1 c2) (by assumption)) (fun _ => ?_)) | refine hcl _ _ _ _ (w_X9_isDeed (n := nI t) tm (fun _ _ => ?_) (fun c0 => absurd (And.intro (by assumption) (by assumption)) c0))
            refine ⟨fun h9 => absurd h9 (by decide), fun _ => ?_⟩
            refine ⟨fun c2 => absurd c2 c, fun _ => ?_⟩
            first | refine hcl _ _ _ _ (w_X9 (fun c1 c2 => absurd (And.intro c1 c2) (by assumption)) (fun _ => ?_)) | refine hcl _ _ _ _ (w_X9 (fun _ _ => ?_) (fun c0 => absurd (And.intro (by assumption) (by assumption)) c0))
            refine ⟨fun _ => ?_, fun h9 => absurd h9 (by decide)⟩
            refine ⟨v8, ?_⟩
            refine ⟨v9, ?_⟩
            refine ⟨fun (c5 : ¬ A 75 (75 + 2 * nI j).toNatClampNeg = A 75 (75 + 2 * nI i).toNatClampNeg) => absurd c3 (by rw [f8, f9] at c5; exact c5), fun _ => ?_⟩
            refine hcl _ _ _ _ (w_X9_placeOf (by omega) ?_)
            refine hcl _ _ _ _ (w_X9_placeOf (by omega) ?_)
            refine ⟨fun c6 => absurd c6 c4, fun _ => ?_⟩
            exact hK _ _ ⟨rfl, rfl, h⟩
        · rw [e8, e9, tj.1.1, ti.1.1] at c3
          refine hK _ _ ?_
          clear hcl hax
          clear cl ax
          refine mCall_k (fun K hK => ?_)
          refine mCall_sem MX9_meet rfl rfl (Or.inl ⟨rfl, rfl, rfl⟩) rfl (mSem_wp MX9_meet rfl aX9_meet 300 [] (fun cl ax hcl hax => ?_))
          first | refine hcl _ _ _ _ (w_X9_isDeed (n := nI t) tm (fun c1 c2 => absurd (And.intro c1 c2) (by assumption)) (fun _ => ?_)) | refine hcl _ _ _ _ (w_X9_isDeed (n := nI t) tm (fun _ _ => ?_) (fun c0 => absurd (And.intro (by assumption) (by assumption)) c0))
          refine ⟨fun h9 => absurd h9 (by decide), fun _ => ?_⟩
          first | refine hcl _ _ _ _ (w_X9_isDeed (n := nI t) tm (fun c1 c2 => absurd (And.intro c1 c2) (by assumption)) (fun _ => ?_)) | refine hcl _ _ _ _ (w_X9_isDeed (n := nI t) tm (fun _ _ => ?_) (fun c0 => absurd (And.intro (by assumption) (by assumption)) c0))
          refine ⟨fun h9 => absurd h9 (by decide), fun _ => ?_⟩
          refine ⟨fun c2 => absurd c2 c, fun _ => ?_⟩
          first | refine hcl _ _ _ _ (w_X9 (fun c1 c2 => absurd (And.intro c1 c2) (by assumption)) (fun _ => ?_)) | refine hcl _ _ _ _ (w_X9 (fun _ _ => ?_) (fun c0 => absurd (And.intro (by assumption) (by assumption)) c0))
          refine ⟨fun _ => ?_, fun h9 => absurd h9 (by decide)⟩
          refine ⟨v8, ?_⟩
          refine ⟨v9, ?_⟩
          refine ⟨fun _ => ?_, fun (c5 : A 75 (75 + 2 * nI j).toNatClampNeg = A 75 (75 + 2 * nI i).toNatClampNeg) => absurd (by rw [f8, f9] at c5; exact c5) c3⟩
          exact hK _ _ ⟨rfl, rfl, h⟩
      · refine ⟨fun h9 => absurd h9 (by decide), fun _ => ?_⟩
        refine hcl _ _ _ _ (w_X8_refuse 0 (by decide) (by decide) ?_)
        refine hK _ _ ?_
        clear hcl hax
        clear cl ax
        refine mCall_k (fun K hK => ?_)
        refine mCall_sem MX9_meet rfl rfl (Or.inl ⟨rfl, rfl, rfl⟩) rfl (mSem_wp MX9_meet rfl aX9_meet 300 [] (fun cl ax hcl hax => ?_))
        first | refine hcl _ _ _ _ (w_X9_isDeed (n := nI t) tm (fun c1 c2 => absurd (And.intro c1 c2) (by assumption)) (fun _ => ?_)) | refine hcl _ _ _ _ (w_X9_isDeed (n := nI t) tm (fun _ _ => ?_) (fun c0 => absurd (And.intro (by assumption) (by assumption)) c0))
        refine ⟨fun h9 => absurd h9 (by decide), fun _ => ?_⟩
        first | refine hcl _ _ _ _ (w_X9_isDeed (n := nI t) tm (fun c1 c2 => absurd (And.intro c1 c2) (by assumption)) (fun _ => ?_)) | refine hcl _ _ _ _ (w_X9_isDeed (n := nI t) tm (fun _ _ => ?_) (fun c0 => absurd (And.intro (by assumption) (by assumption)) c0))
        refine ⟨fun h9 => absurd h9 (by decide), fun _ => ?_⟩
        refine ⟨fun c2 => absurd c2 c, fun _ => ?_⟩
        first | refine hcl _ _ _ _ (w_X9 (fun c1 c2 => absurd (And.intro c1 c2) (by assumption)) (fun _ => ?_)) | refine hcl _ _ _ _ (w_X9 (fun _ _ => ?_) (fun c0 => absurd (And.intro (by assumption) (by assumption)) c0))
        refine ⟨fun h9 => absurd h9 (by decide), fun _ => ?_⟩
        exact hcl _ _ _ _ (w_X9_finding 0 (by decide) (by decide) (hK _ _ (rEnd_cnt h (by decide))))
    · refine ⟨fun _ => ?_, fun h9 => absurd h9 (by decide)⟩
      refine hcl _ _ _ _ (w_X8_refuse 0 (by decide) (by decide) ?_)
      refine hK _ _ ?_
      clear hcl hax
      clear cl ax
      refine mCall_k (fun K hK => ?_)
      refine mCall_sem MX9_meet rfl rfl (Or.inl ⟨rfl, rfl, rfl⟩) rfl (mSem_wp MX9_meet rfl aX9_meet 300 [] (fun cl ax hcl hax => ?_))
      repeat (first | exact hcl _ _ _ _ (w_X9_finding 0 (by decide) (by decide) (hK _ _ (rEnd_cnt h (by decide)))) | refine ⟨fun _ => ?_, fun h9 => absurd h9 (by decide)⟩ | refine ⟨fun h9 => absurd h9 (by decide), fun _ => ?_⟩ | (first | refine hcl _ _ _ _ (w_X9_isDeed (n := nI t) tm (fun c1 c2 => absurd (And.intro c1 c2) (by assumption)) (fun _ => ?_)) | refine hcl _ _ _ _ (w_X9_isDeed (n := nI t) tm (fun _ _ => ?_) (fun c0 => absurd (And.intro (by assumption) (by assumption)) c0))) | (first | refine hcl _ _ _ _ (w_X9 (fun c1 c2 => absurd (And.intro c1 c2) (by assumption)) (fun _ => ?_)) | refine hcl _ _ _ _ (w_X9 (fun _ _ => ?_) (fun c0 => absurd (And.intro (by assumption) (by assumption)) c0))))
  · refine ⟨fun _ => ?_, fun h9 => absurd h9 (by decide)⟩
    refine hcl _ _ _ _ (w_X8_refuse 0 (by decide) (by decide) ?_)
    refine hK _ _ ?_
    clear hcl hax
    clear cl ax
    refine mCall_k (fun K hK => ?_)
    refine mCall_sem MX9_meet rfl rfl (Or.inl ⟨rfl, rfl, rfl⟩) rfl (mSem_wp MX9_meet rfl aX9_meet 300 [] (fun cl ax hcl hax => ?_))
    repeat (first | exact hcl _ _ _ _ (w_X9_finding 0 (by decide) (by decide) (hK _ _ (rEnd_cnt h (by decide)))) | refine ⟨fun _ => ?_, fun h9 => absurd h9 (by decide)⟩ | refine ⟨fun h9 => absurd h9 (by decide), fun _ => ?_⟩ | (first | refine hcl _ _ _ _ (w_X9_isDeed (n := nI t) tm (fun c1 c2 => absurd (And.intro c1 c2) (by assumption)) (fun _ => ?_)) | refine hcl _ _ _ _ (w_X9_isDeed (n := nI t) tm (fun _ _ => ?_) (fun c0 => absurd (And.intro (by assumption) (by assumption)) c0))) | (first | refine hcl _ _ _ _ (w_X9 (fun c1 c2 => absurd (And.intro c1 c2) (by assumption)) (fun _ => ?_)) | refine hcl _ _ _ _ (w_X9 (fun _ _ => ?_) (fun c0 => absurd (And.intro (by assumption) (by assumption)) c0))))
