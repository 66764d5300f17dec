/-! stake -/
theorem sIx (j f q : Nat) (h : q = 95 + 4 * j + f) : 95 + 4 * nI j + nI f = nI q := by
  subst h
  rw [show (4 : Int32) * nI j = nI (4 * j) from pk_mul 4 j, show (95 : Int32) + nI (4 * j) = nI (95 + 4 * j) from nI_add 95 (4 * j), nI_add]
theorem w_drive {E : ME} {d : Nat} {ln ft sp wy : Int32} {A : Nat → Nat → Int32} {B : Nat → Nat → Int64} {K : MK} {k : Nat} (hk : k < 10) (hx : A 13 0 = nI k) (hK : K (some (.int (nI k))) (SH, va_up (va_up (va_up (va_up (va_up A 14 (upd (A 14) k ln)) 15 (upd (A 15) k ft)) 16 (upd (A 16) k sp)) 17 (upd (A 17) k wy)) 13 (upd (A 13) 0 (nI (k + 1))), B)) : mCall E d nX4_drive [.ref 13, .int ln, .int ft, .int sp, .int wy] (SH, A, B) K := by
  have e8 : k = (A 13 0).toNatClampNeg := by rw [hx, nI_clamp (by omega)]
  have hv : vp_in (A 13 0) 10 := by rw [hx]; exact vp_in_nI hk (by decide)
  have e7 : A 13 0 + 1 - 1 = nI k := by rw [hx]; grind
  have e6 : nI (k + 1) = A 13 0 + 1 := by rw [hx]; exact (nI_1 k).symm
  rw [← e7, e6, e8] at hK
  refine mCall_sem MX4_drive rfl rfl (Or.inl ⟨rfl, rfl, rfl⟩) rfl (mSem_wp MX4_drive rfl aX4_drive 300 [] (fun cl ax hcl hax => ?_))
  refine ⟨hv, ?_⟩
  refine ⟨hv, ?_⟩
  refine ⟨hv, ?_⟩
  refine ⟨hv, ?_⟩
  exact hK
theorem w_staked {E : ME} {d : Nat} {ln ft sp wy : Int32} {A : Nat → Nat → Int32} {B : Nat → Nat → Int64} {K : MK} {k : Nat} (hk : k < 10) (hx : A 75 5 = nI k) (hK : K (some (.int (nI k))) (SH, va_up A 75 (upd (upd (upd (upd (upd (A 75) (95 + 4 * k) ln) (96 + 4 * k) ft) (97 + 4 * k) sp) (98 + 4 * k) wy) 5 (nI (k + 1))), B)) : mCall E d nX9_staked [.ref 74, .int ln, .int ft, .int sp, .int wy] (SH, A, B) K := by
  have e0 : 95 + 4 * A 75 5 + 0 = nI (95 + 4 * k) := by rw [hx]; exact sIx k 0 _ (by omega)
  have e1 : 95 + 4 * A 75 5 + 1 = nI (96 + 4 * k) := by rw [hx]; exact sIx k 1 _ (by omega)
  have e2 : 95 + 4 * A 75 5 + 2 = nI (97 + 4 * k) := by rw [hx]; exact sIx k 2 _ (by omega)
  have e3 : 95 + 4 * A 75 5 + 3 = nI (98 + 4 * k) := by rw [hx]; exact sIx k 3 _ (by omega)
  have e5 : (5 : Int32).toNatClampNeg = 5 := rfl
  refine mCall_sem MX9_staked rfl rfl (Or.inl ⟨rfl, rfl, rfl⟩) rfl (mSem_wp MX9_staked rfl aX9_staked 300 [] (fun cl ax hcl hax => ?_))
  refine ⟨vl 5 rfl rfl, ?_⟩
  refine ⟨by rw [show (95 + 4 * (SH, A, B).2.1 75 (5 : Int32).toNatClampNeg + 0) = _ from e0]; exact vp_in_nI (N := 135) (by omega) (by decide), ?_⟩
  refine ⟨by rw [show (95 + 4 * (SH, A, B).2.1 75 (5 : Int32).toNatClampNeg + 1) = _ from e1]; exact vp_in_nI (N := 135) (by omega) (by decide), ?_⟩
  refine ⟨by rw [show (95 + 4 * (SH, A, B).2.1 75 (5 : Int32).toNatClampNeg + 2) = _ from e2]; exact vp_in_nI (N := 135) (by omega) (by decide), ?_⟩
  refine ⟨by rw [show (95 + 4 * (SH, A, B).2.1 75 (5 : Int32).toNatClampNeg + 3) = _ from e3]; exact vp_in_nI (N := 135) (by omega) (by decide), ?_⟩
  refine ⟨vl 5 rfl rfl, ?_⟩
  refine ⟨vl 5 rfl rfl, ?_⟩
  conv => whnf
  simp only [msetA, e5, up_s, bx_uu, e0, e1, e2, e3, nI_clamp (show 95 + 4 * k < 2 ^ 31 by omega), nI_clamp (show 96 + 4 * k < 2 ^ 31 by omega), nI_clamp (show 97 + 4 * k < 2 ^ 31 by omega), nI_clamp (show 98 + 4 * k < 2 ^ 31 by omega)]
  rw [ud_n (show 5 ≠ 98 + 4 * k by omega), ud_n (show 5 ≠ 97 + 4 * k by omega), ud_n (show 5 ≠ 96 + 4 * k by omega), ud_n (show 5 ≠ 95 + 4 * k by omega), hx, nI_1]
  exact hK
theorem rAll_stake {A : Nat → Nat → Int32} {B : Nat → Nat → Int64} (h : rAll A B) {k : Nat} (hk : k < 10) (hx : A 13 0 = nI k) (hm : A 75 5 = nI k) {ln ft sp wy : Int32} (q1 : 0 ≤ ft ∧ ft ≤ 999) (q2 : 1 ≤ sp ∧ sp ≤ 60) : rAll (va_up (va_up (va_up (va_up (va_up (va_up A 14 (upd (A 14) k ln)) 15 (upd (A 15) k ft)) 16 (upd (A 16) k sp)) 17 (upd (A 17) k wy)) 13 (upd (A 13) 0 (nI (k + 1)))) 75 (upd (upd (upd (upd (upd (A 75) (95 + 4 * k) ln) (96 + 4 * k) ft) (97 + 4 * k) sp) (98 + 4 * k) wy) 5 (nI (k + 1)))) B := by
  obtain ⟨⟨hi, hh, hd', hs⟩, hk9, hf, ht, hsh⟩ := h
  have n : ∀ q, q ≠ 5 → ¬ (95 + 4 * k ≤ q ∧ q < 99 + 4 * k) → upd (upd (upd (upd (upd (A 75) (95 + 4 * k) ln) (96 + 4 * k) ft) (97 + 4 * k) sp) (98 + 4 * k) wy) 5 (nI (k + 1)) q = A 75 q := fun q a b => by
    rw [ud_n a, ud_n (by omega), ud_n (by omega), ud_n (by omega), ud_n (by omega)]
  refine ⟨⟨rIce_c hi rfl rfl (fun q hq => n q (by omega) (by omega)), rHou_c hh rfl rfl rfl rfl rfl rfl (fun q hq => n q (by omega) (by omega)), rDee_c hd' rfl rfl rfl (fun q hq => n q (by omega) (by omega)), ?_⟩, hk9, hf, ht, hsh⟩
  · obtain ⟨k', k1, k2, k3, k4⟩ := hs
    have : k' = k := (nI_eq (by omega) (by omega)).mp (k3.symm.trans hm)
    subst this
    refine ⟨k' + 1, by omega, rfl, rfl, fun j hj => ?_⟩
    by_cases hjk : j = k'
    · subst hjk
      have m0 : upd (upd (upd (upd (upd (A 75) (95 + 4 * j) ln) (96 + 4 * j) ft) (97 + 4 * j) sp) (98 + 4 * j) wy) 5 (nI (j + 1)) (95 + 4 * j) = ln := by
        rw [ud_n (by omega), ud_n (by omega), ud_n (by omega), ud_n (by omega), ud_s]
      have m1 : upd (upd (upd (upd (upd (A 75) (95 + 4 * j) ln) (96 + 4 * j) ft) (97 + 4 * j) sp) (98 + 4 * j) wy) 5 (nI (j + 1)) (96 + 4 * j) = ft := by
        rw [ud_n (by omega), ud_n (by omega), ud_n (by omega), ud_s]
      have m2 : upd (upd (upd (upd (upd (A 75) (95 + 4 * j) ln) (96 + 4 * j) ft) (97 + 4 * j) sp) (98 + 4 * j) wy) 5 (nI (j + 1)) (97 + 4 * j) = sp := by
        rw [ud_n (by omega), ud_n (by omega), ud_s]
      have m3 : upd (upd (upd (upd (upd (A 75) (95 + 4 * j) ln) (96 + 4 * j) ft) (97 + 4 * j) sp) (98 + 4 * j) wy) 5 (nI (j + 1)) (98 + 4 * j) = wy := by
        rw [ud_n (by omega), ud_s]
      simp only [va_up, Nat.reduceEqDiff, reduceIte, m0, m1, m2, m3, ud_s]
      exact ⟨⟨trivial, trivial, trivial, trivial⟩, q1, q2⟩
    · have k5 := k4 j (by omega)
      have m0 := n (95 + 4 * j) (by omega) (by omega)
      have m1 := n (96 + 4 * j) (by omega) (by omega)
      have m2 := n (97 + 4 * j) (by omega) (by omega)
      have m3 := n (98 + 4 * j) (by omega) (by omega)
      simp only [va_up, Nat.reduceEqDiff, reduceIte, m0, m1, m2, m3, ud_n hjk]
      exact k5
theorem op_stake {E : ME} {v u w z : Int32} {A : Nat → Nat → Int32} {B : Nat → Nat → Int64} (h : rAll A B) : rOp E nX8_stake nX9_stake [.int v, .int u, .int w, .int z] A B := by
  obtain ⟨t, t10, tx, tm, th⟩ := h.1.2.2.2
  refine rOp_of (fun K hK => ?_)
  refine mCall_sem MX8_stake rfl rfl (Or.inl ⟨rfl, rfl, rfl⟩) rfl (mSem_wp MX8_stake rfl aX8_stake 300 [] (fun cl ax hcl hax => ?_))
  refine hcl _ _ _ _ (w_X8_isLane (fun a1 a2 => ?_) (fun a0 => ?_))
  · refine ⟨fun h9 => absurd h9 (by decide), fun _ => ?_⟩
    refine hcl _ _ _ _ (w_X8 (fun b1 b2 => ?_) (fun b0 => ?_))
    · refine ⟨fun _ => ?_, fun h9 => absurd h9 (by decide)⟩
      refine hcl _ _ _ _ (w_X8 (fun d1 d2 => ?_) (fun d0 => ?_))
      · refine ⟨fun h9 => absurd h9 (by decide), fun _ => ?_⟩
        refine hcl _ _ _ _ (w_X8 (fun e1 e2 => ?_) (fun e0 => ?_))
        · refine ⟨fun _ => ?_, fun h9 => absurd h9 (by decide)⟩
          refine ⟨fun (c2 : A 13 0 < 10) => ?_, fun (c2 : ¬ A 13 0 < 10) => ?_⟩
          · rw [tx] at c2
            have hk : t < 10 := (nI_ltI (b := 10) (by omega) (by decide)).mp c2
            refine hcl _ _ _ _ (w_drive hk tx ?_)
            refine hK _ _ ?_
            clear hcl hax
            clear cl ax
            refine mCall_k (fun K hK => ?_)
            refine mCall_sem MX9_stake rfl rfl (Or.inl ⟨rfl, rfl, rfl⟩) rfl (mSem_wp MX9_stake rfl aX9_stake 300 [] (fun cl ax hcl hax => ?_))
            first | refine hcl _ _ _ _ (w_X9_isLane (fun c1 c2 => absurd (And.intro c1 c2) (by assumption)) (fun _ => ?_)) | refine hcl _ _ _ _ (w_X9_isLane (fun _ _ => ?_) (fun c0 => absurd (And.intro (by assumption) (by assumption)) c0))
            refine ⟨fun h9 => absurd h9 (by decide), fun _ => ?_⟩
            first | refine hcl _ _ _ _ (w_X9_isYear (fun c1 c2 => absurd (And.intro c1 c2) (by assumption)) (fun _ => ?_)) | refine hcl _ _ _ _ (w_X9_isYear (fun _ _ => ?_) (fun c0 => absurd (And.intro (by assumption) (by assumption)) c0))
            refine ⟨fun h9 => absurd h9 (by decide), fun _ => ?_⟩
            first | refine hcl _ _ _ _ (w_X9 (fun c1 c2 => absurd (And.intro c1 c2) (by assumption)) (fun _ => ?_)) | refine hcl _ _ _ _ (w_X9 (fun _ _ => ?_) (fun c0 => absurd (And.intro (by assumption) (by assumption)) c0))
            refine ⟨fun h9 => absurd h9 (by decide), fun _ => ?_⟩
            first | refine hcl _ _ _ _ (w_X9 (fun c1 c2 => absurd (And.intro c1 c2) (by assumption)) (fun _ => ?_)) | refine hcl _ _ _ _ (w_X9 (fun _ _ => ?_) (fun c0 => absurd (And.intro (by assumption) (by assumption)) c0))
            refine ⟨fun _ => ?_, fun h9 => absurd h9 (by decide)⟩
            refine ⟨vl 5 rfl rfl, ?_⟩
            refine ⟨fun _ => ?_, fun (c3 : A 75 5 = 10) => by exfalso; rw [tm] at c3; grind⟩
            refine hcl _ _ _ _ (w_staked hk tm ?_)
            exact hK _ _ ⟨rfl, rfl, rAll_stake h hk tx tm ⟨b1, b2⟩ ⟨d1, d2⟩⟩
          · rw [tx] at c2
            have hk : t = 10 := by
              rcases Nat.lt_or_ge t 10 with q | q
              · exact absurd ((nI_ltI (b := 10) (by omega) (by decide)).mpr q) c2
              · omega
            subst hk
            refine hcl _ _ _ _ (w_X8_refuse 1 (by decide) (by decide) ?_)
            refine hK _ _ ?_
            clear hcl hax
            clear cl ax
            refine mCall_k (fun K hK => ?_)
            refine mCall_sem MX9_stake rfl rfl (Or.inl ⟨rfl, rfl, rfl⟩) rfl (mSem_wp MX9_stake rfl aX9_stake 300 [] (fun cl ax hcl hax => ?_))
            first | refine hcl _ _ _ _ (w_X9_isLane (fun c1 c2 => absurd (And.intro c1 c2) (by assumption)) (fun _ => ?_)) | refine hcl _ _ _ _ (w_X9_isLane (fun _ _ => ?_) (fun c0 => absurd (And.intro (by assumption) (by assumption)) c0))
            refine ⟨fun h9 => absurd h9 (by decide), fun _ => ?_⟩
            first | refine hcl _ _ _ _ (w_X9_isYear (fun c1 c2 => absurd (And.intro c1 c2) (by assumption)) (fun _ => ?_)) | refine hcl _ _ _ _ (w_X9_isYear (fun _ _ => ?_) (fun c0 => absurd (And.intro (by assumption) (by assumption)) c0))
            refine ⟨fun h9 => absurd h9 (by decide), fun _ => ?_⟩
            first | refine hcl _ _ _ _ (w_X9 (fun c1 c2 => absurd (And.intro c1 c2) (by assumption)) (fun _ => ?_)) | refine hcl _ _ _ _ (w_X9 (fun _ _ => ?_) (fun c0 => absurd (And.intro (by assumption) (by assumption)) c0))
            refine ⟨fun h9 => absurd h9 (by decide), fun _ => ?_⟩
            first | refine hcl _ _ _ _ (w_X9 (fun c1 c2 => absurd (And.intro c1 c2) (by assumption)) (fun _ => ?_)) | refine hcl _ _ _ _ (w_X9 (fun _ _ => ?_) (fun c0 => absurd (And.intro (by assumption) (by assumption)) c0))
            refine ⟨fun _ => ?_, fun h9 => absurd h9 (by decide)⟩
            refine ⟨vl 5 rfl rfl, ?_⟩
            refine ⟨fun (c3 : ¬ A 75 5 = 10) => absurd tm c3, fun _ => ?_⟩
            exact hcl _ _ _ _ (w_X9_finding 1 (by decide) (by decide) (hK _ _ (rEnd_cnt h (by decide))))
        · refine ⟨fun h9 => absurd h9 (by decide), fun _ => ?_⟩
          refine hcl _ _ _ _ (w_X8_refuse 0 (by decide) (by decide) ?_)
          refine hK _ _ ?_
          clear hcl hax
          clear cl ax
          refine mCall_k (fun K hK => ?_)
          refine mCall_sem MX9_stake rfl rfl (Or.inl ⟨rfl, rfl, rfl⟩) rfl (mSem_wp MX9_stake rfl aX9_stake 300 [] (fun cl ax hcl hax => ?_))
          repeat (first | exact hcl _ _ _ _ (w_X9_finding 0 (by decide) (by decide) (hK _ _ (rEnd_cnt h (by decide)))) | refine ⟨fun _ => ?_, fun h9 => absurd h9 (by decide)⟩ | refine ⟨fun h9 => absurd h9 (by decide), fun _ => ?_⟩ | (first | refine hcl _ _ _ _ (w_X9_isLane (fun c1 c2 => absurd (And.intro c1 c2) (by assumption)) (fun _ => ?_)) | refine hcl _ _ _ _ (w_X9_isLane (fun _ _ => ?_) (fun c0 => absurd (And.intro (by assumption) (by assumption)) c0))) | (first | refine hcl _ _ _ _ (w_X9_isYear (fun c1 c2 => absurd (And.intro c1 c2) (by assumption)) (fun _ => ?_)) | refine hcl _ _ _ _ (w_X9_isYear (fun _ _ => ?_) (fun c0 => absurd (And.intro (by assumption) (by assumption)) c0))) | (first | refine hcl _ _ _ _ (w_X9 (fun c1 c2 => absurd (And.intro c1 c2) (by assumption)) (fun _ => ?_)) | refine hcl _ _ _ _ (w_X9 (fun _ _ => ?_) (fun c0 => absurd (And.intro (by assumption) (by assumption)) c0))))
      · refine ⟨fun _ => ?_, fun h9 => absurd h9 (by decide)⟩
        refine hcl _ _ _ _ (w_X8_refuse 0 (by decide) (by decide) ?_)
        refine hK _ _ ?_
        clear hcl hax
        clear cl ax
        refine mCall_k (fun K hK => ?_)
        refine mCall_sem MX9_stake rfl rfl (Or.inl ⟨rfl, rfl, rfl⟩) rfl (mSem_wp MX9_stake rfl aX9_stake 300 [] (fun cl ax hcl hax => ?_))
        repeat (first | exact hcl _ _ _ _ (w_X9_finding 0 (by decide) (by decide) (hK _ _ (rEnd_cnt h (by decide)))) | refine ⟨fun _ => ?_, fun h9 => absurd h9 (by decide)⟩ | refine ⟨fun h9 => absurd h9 (by decide), fun _ => ?_⟩ | (first | refine hcl _ _ _ _ (w_X9_isLane (fun c1 c2 => absurd (And.intro c1 c2) (by assumption)) (fun _ => ?_)) | refine hcl _ _ _ _ (w_X9_isLane (fun _ _ => ?_) (fun c0 => absurd (And.intro (by assumption) (by assumption)) c0))) | (first | refine hcl _ _ _ _ (w_X9_isYear (fun c1 c2 => absurd (And.intro c1 c2) (by assumption)) (fun _ => ?_)) | refine hcl _ _ _ _ (w_X9_isYear (fun _ _ => ?_) (fun c0 => absurd (And.intro (by assumption) (by assumption)) c0))) | (first | refine hcl _ _ _ _ (w_X9 (fun c1 c2 => absurd (And.intro c1 c2) (by assumption)) (fun _ => ?_)) | refine hcl _ _ _ _ (w_X9 (fun _ _ => ?_) (fun c0 => absurd (And.intro (by assumption) (by assumption)) c0))))
    · refine ⟨fun h9 => absurd h9 (by decide), fun _ => ?_⟩
      refine hcl _ _ _ _ (w_X8_refuse 0 (by decide) (by decide) ?_)
      refine hK _ _ ?_
      clear hcl hax
      clear cl ax
      refine mCall_k (fun K hK => ?_)
      refine mCall_sem MX9_stake rfl rfl (Or.inl ⟨rfl, rfl, rfl⟩) rfl (mSem_wp MX9_stake rfl aX9_stake 300 [] (fun cl ax hcl hax => ?_))
      repeat (first | exact hcl _ _ _ _ (w_X9_finding 0 (by decide) (by decide) (hK _ _ (rEnd_cnt h (by decide)))) | refine ⟨fun _ => ?_, fun h9 => absurd h9 (by decide)⟩ | refine ⟨fun h9 => absurd h9 (by decide), fun _ => ?_⟩ | (first | refine hcl _ _ _ _ (w_X9_isLane (fun c1 c2 => absurd (And.intro c1 c2) (by assumption)) (fun _ => ?_)) | refine hcl _ _ _ _ (w_X9_isLane (fun _ _ => ?_) (fun c0 => absurd (And.intro (by assumption) (by assumption)) c0))) | (first | refine hcl _ _ _ _ (w_X9_isYear (fun c1 c2 => absurd (And.intro c1 c2) (by assumption)) (fun _ => ?_)) | refine hcl _ _ _ _ (w_X9_isYear (fun _ _ => ?_) (fun c0 => absurd (And.intro (by assumption) (by assumption)) c0))) | (first | refine hcl _ _ _ _ (w_X9 (fun c1 c2 => absurd (And.intro c1 c2) (by assumption)) (fun _ => ?_)) | refine hcl _ _ _ _ (w_X9 (fun _ _ => ?_) (fun c0 => absurd (And.intro (by assumption) (by assumption)) c0))))
  · refine ⟨fun _ => ?_, fun h9 => absurd h9 (by decide)⟩
    refine hcl _ _ _ _ (w_X8_refuse 0 (by decide) (by decide) ?_)
    refine hK _ _ ?_
    clear hcl hax
    clear cl ax
    refine mCall_k (fun K hK => ?_)
    refine mCall_sem MX9_stake rfl rfl (Or.inl ⟨rfl, rfl, rfl⟩) rfl (mSem_wp MX9_stake rfl aX9_stake 300 [] (fun cl ax hcl hax => ?_))
    repeat (first | exact hcl _ _ _ _ (w_X9_finding 0 (by decide) (by decide) (hK _ _ (rEnd_cnt h (by decide)))) | refine ⟨fun _ => ?_, fun h9 => absurd h9 (by decide)⟩ | refine ⟨fun h9 => absurd h9 (by decide), fun _ => ?_⟩ | (first | refine hcl _ _ _ _ (w_X9_isLane (fun c1 c2 => absurd (And.intro c1 c2) (by assumption)) (fun _ => ?_)) | refine hcl _ _ _ _ (w_X9_isLane (fun _ _ => ?_) (fun c0 => absurd (And.intro (by assumption) (by assumption)) c0))) | (first | refine hcl _ _ _ _ (w_X9_isYear (fun c1 c2 => absurd (And.intro c1 c2) (by assumption)) (fun _ => ?_)) | refine hcl _ _ _ _ (w_X9_isYear (fun _ _ => ?_) (fun c0 => absurd (And.intro (by assumption) (by assumption)) c0))) | (first | refine hcl _ _ _ _ (w_X9 (fun c1 c2 => absurd (And.intro c1 c2) (by assumption)) (fun _ => ?_)) | refine hcl _ _ _ _ (w_X9 (fun _ _ => ?_) (fun c0 => absurd (And.intro (by assumption) (by assumption)) c0))))
/-! wipe, tear, count, status -/
theorem op_wipe {E : ME} {A : Nat → Nat → Int32} {B : Nat → Nat → Int64} (h : rAll A B) : rOp E nX8_wipe nX9_wipe [] A B := by
  obtain ⟨t, t1, t2, t3, t4⟩ := h.2.2.2.1
  refine rOp_of (fun K hK => ?_)
  refine mCall_sem MX8_wipe rfl rfl (Or.inl ⟨rfl, rfl, rfl⟩) rfl (mSem_wp MX8_wipe rfl aX8_wipe 300 [] (fun cl ax hcl hax => ?_))
  refine hK _ _ ?_
  clear hcl hax
  clear cl ax
  refine mCall_k (fun K hK => ?_)
  refine mCall_sem MX9_wipe rfl rfl (Or.inl ⟨rfl, rfl, rfl⟩) rfl (mSem_wp MX9_wipe rfl aX9_wipe 300 [] (fun cl ax hcl hax => ?_))
  refine hK _ _ ⟨?_, rfl, h.1, h.2.1, h.2.2.1, ⟨0, by omega, rfl, rfl, fun j hj => by omega⟩, h.2.2.2.2⟩
  show some (Value.int (A 45 0)) = some (Value.int (A 74 6))
  rw [t2, t3]
theorem op_tear {E : ME} {A : Nat → Nat → Int32} {B : Nat → Nat → Int64} (h : rAll A B) : rOp E nX8_tear nX9_tear [] A B := by
  obtain ⟨t1, t2⟩ := h.2.1
  refine rOp_of (fun K hK => ?_)
  refine mCall_sem MX8_tear rfl rfl (Or.inl ⟨rfl, rfl, rfl⟩) rfl (mSem_wp MX8_tear rfl aX8_tear 300 [] (fun cl ax hcl hax => ?_))
  refine ⟨fun (c : A 0 7 = 0) => ?_, fun (c : ¬ A 0 7 = 0) => ?_⟩
  · refine ⟨rfl, rfl, ?_⟩
    refine hK _ _ ?_
    clear hcl hax
    clear cl ax
    refine mCall_k (fun K hK => ?_)
    refine mCall_sem MX9_tear rfl rfl (Or.inl ⟨rfl, rfl, rfl⟩) rfl (mSem_wp MX9_tear rfl aX9_tear 300 [] (fun cl ax hcl hax => ?_))
    refine ⟨fun _ => ?_, fun (c2 : ¬ A 74 3 = 0) => absurd (t1 ▸ c) c2⟩
    refine ⟨rfl, rfl, ?_⟩
    exact hK _ _ ⟨rfl, rfl, h.1, ⟨rfl, Or.inl rfl⟩, h.2.2.1, h.2.2.2.1, h.2.2.2.2⟩
  · refine ⟨rfl, rfl, ?_⟩
    refine hK _ _ ?_
    clear hcl hax
    clear cl ax
    refine mCall_k (fun K hK => ?_)
    refine mCall_sem MX9_tear rfl rfl (Or.inl ⟨rfl, rfl, rfl⟩) rfl (mSem_wp MX9_tear rfl aX9_tear 300 [] (fun cl ax hcl hax => ?_))
    refine ⟨fun (c2 : A 74 3 = 0) => absurd (t1.trans c2) c, fun _ => ?_⟩
    refine ⟨rfl, rfl, ?_⟩
    exact hK _ _ ⟨rfl, rfl, h.1, ⟨rfl, Or.inl rfl⟩, h.2.2.1, h.2.2.2.1, h.2.2.2.2⟩
theorem op_count {E : ME} {u : Int32} {A : Nat → Nat → Int32} {B : Nat → Nat → Int64} (h : rAll A B) : rOp E nX8_count nX9_count [.int u] A B := by
  obtain ⟨k, k12, kx, km, kh⟩ := h.1.2.1
  obtain ⟨t, t10, tx, tm, th⟩ := h.1.2.2.1
  obtain ⟨s, s10, sx, sm, sh⟩ := h.1.2.2.2
  obtain ⟨p, p120, px, pm, ph⟩ := h.2.2.2.1
  refine rOp_of (fun K hK => ?_)
  refine mCall_sem MX8_count rfl rfl (Or.inl ⟨rfl, rfl, rfl⟩) rfl (mSem_wp MX8_count rfl aX8_count 300 [] (fun cl ax hcl hax => ?_))
  refine ⟨fun (c : u = 0) => ?_, fun (c0 : ¬ u = 0) => ⟨fun (c : u = 1) => ?_, fun (c1 : ¬ u = 1) => ⟨fun (c : u = 2) => ?_, fun (c2 : ¬ u = 2) => ⟨fun (c : u = 3) => ?_, fun (c3 : ¬ u = 3) => ?_⟩⟩⟩⟩
  · subst c
    refine hK _ _ ?_
    clear hcl hax
    clear cl ax
    refine mCall_k (fun K hK => ?_)
    refine mCall_sem MX9_count rfl rfl (Or.inl ⟨rfl, rfl, rfl⟩) rfl (mSem_wp MX9_count rfl aX9_count 300 [] (fun cl ax hcl hax => ?_))
    refine ⟨fun _ => ?_, fun h9 => absurd h9 (by decide)⟩
    refine ⟨vl 3 rfl rfl, ?_⟩
    exact hK _ _ ⟨congrArg (fun x => some (Value.int x)) (kx.trans km.symm), rfl, h⟩
  · subst c
    refine hK _ _ ?_
    clear hcl hax
    clear cl ax
    refine mCall_k (fun K hK => ?_)
    refine mCall_sem MX9_count rfl rfl (Or.inl ⟨rfl, rfl, rfl⟩) rfl (mSem_wp MX9_count rfl aX9_count 300 [] (fun cl ax hcl hax => ?_))
    refine ⟨fun h9 => absurd h9 (by decide), fun _ => ?_⟩
    refine ⟨fun _ => ?_, fun h9 => absurd h9 (by decide)⟩
    refine ⟨vl 4 rfl rfl, ?_⟩
    exact hK _ _ ⟨congrArg (fun x => some (Value.int x)) (tx.trans tm.symm), rfl, h⟩
  · subst c
    refine hK _ _ ?_
    clear hcl hax
    clear cl ax
    refine mCall_k (fun K hK => ?_)
    refine mCall_sem MX9_count rfl rfl (Or.inl ⟨rfl, rfl, rfl⟩) rfl (mSem_wp MX9_count rfl aX9_count 300 [] (fun cl ax hcl hax => ?_))
    refine ⟨fun h9 => absurd h9 (by decide), fun _ => ?_⟩
    refine ⟨fun h9 => absurd h9 (by decide), fun _ => ?_⟩
    refine ⟨fun _ => ?_, fun h9 => absurd h9 (by decide)⟩
    refine ⟨vl 5 rfl rfl, ?_⟩
    exact hK _ _ ⟨congrArg (fun x => some (Value.int x)) (sx.trans sm.symm), rfl, h⟩
  · subst c
    refine hK _ _ ?_
    clear hcl hax
    clear cl ax
    refine mCall_k (fun K hK => ?_)
    refine mCall_sem MX9_count rfl rfl (Or.inl ⟨rfl, rfl, rfl⟩) rfl (mSem_wp MX9_count rfl aX9_count 300 [] (fun cl ax hcl hax => ?_))
    refine ⟨fun h9 => absurd h9 (by decide), fun _ => ?_⟩
    refine ⟨fun h9 => absurd h9 (by decide), fun _ => ?_⟩
    refine ⟨fun h9 => absurd h9 (by decide), fun _ => ?_⟩
    refine ⟨fun _ => ?_, fun h9 => absurd h9 (by decide)⟩
    exact hK _ _ ⟨congrArg (fun x => some (Value.int x)) (px.trans pm.symm), rfl, h⟩
  · refine hcl _ _ _ _ (w_X8_refuse 0 (by decide) (by decide) ?_)
    refine hK _ _ ?_
    clear hcl hax
    clear cl ax
    refine mCall_k (fun K hK => ?_)
    refine mCall_sem MX9_count rfl rfl (Or.inl ⟨rfl, rfl, rfl⟩) rfl (mSem_wp MX9_count rfl aX9_count 300 [] (fun cl ax hcl hax => ?_))
    refine ⟨fun (c : u = 0) => absurd c c0, fun _ => ⟨fun (c : u = 1) => absurd c c1, fun _ => ⟨fun (c : u = 2) => absurd c c2, fun _ => ⟨fun (c : u = 3) => absurd c c3, fun _ => ?_⟩⟩⟩⟩
    exact hcl _ _ _ _ (w_X9_finding 0 (by decide) (by decide) (hK _ _ (rEnd_cnt h (by decide))))
def fs (F : Nat → Int32) : Nat → Int32
  | 0 => 0
  | j + 1 => fs F j + F j
theorem fs7 (F : Nat → Int32) : fs F 7 = F 0 + F 1 + F 2 + F 3 + F 4 + F 5 + F 6 := by
  show 0 + F 0 + F 1 + F 2 + F 3 + F 4 + F 5 + F 6 = _
  grind
theorem lp_status {E : ME} {d : Nat} {A : Nat → Nat → Int32} {B : Nat → Nat → Int64} {K : MK} {u : Int32} (hK : K (some (.int (fs (A 73) 7))) (SH, A, B)) : ∀ j, j ≤ 7 → mSem E d nX8_status (SH, A, B) 0 0 K 32 [some (.ref 0), some (.int u), some (.int (fs (A 73) j)), some (.int (nI j))] [] (SH, A, B) := by
  refine mSem_loop MX8_status rfl aX8_status 300 [32] (fun j => [some (.ref 0), some (.int u), some (.int (fs (A 73) j)), some (.int (nI j))]) (fun j => (SH, A, B)) (fun j => j ≤ 7) (fun j => 7 - j) ?_
  intro j hj cl ax hcl hax hlp
  have e8 : (nI j).toNatClampNeg = j := nI_clamp (by omega)
  refine ⟨fun (c : nI 7 ≤ nI j) => ?_, fun (c : ¬ nI 7 ≤ nI j) => ?_⟩
  · rw [nI_leI (by omega) (by omega)] at c
    have : j = 7 := by omega
    subst this
    exact hK
  · rw [nI_leI (by omega) (by omega)] at c
    refine ⟨vp_in_nI (N := 7) (by omega) (by decide), ?_⟩
    have this : ax 32 [some (.ref 0), some (.int u), some (.int (fs (A 73) (j + 1))), some (.int (nI (j + 1)))] [] (SH, A, B) := hlp (j + 1) (by omega) (by omega)
    rw [← nI_1, fs] at this
    have e9 : A 73 j = A 73 (nI j).toNatClampNeg := by rw [e8]
    rw [e9] at this
    exact this
theorem op_status {E : ME} {u : Int32} {A : Nat → Nat → Int32} {B : Nat → Nat → Int64} (h : rAll A B) : rOp E nX8_status nX9_status [.int u] A B := by
  obtain ⟨f1, f2⟩ := h.2.2.1
  refine rOp_of (fun K hK => ?_)
  refine mCall_sem MX8_status rfl rfl (Or.inl ⟨rfl, rfl, rfl⟩) rfl (mSem_wp MX8_status rfl aX8_status 300 [32] (fun cl ax hcl hax => ?_))
  refine hcl _ _ _ _ (w_X8 (fun b1 b2 => ?_) (fun b0 => ?_))
  · refine ⟨fun _ => ?_, fun h9 => absurd h9 (by decide)⟩
    refine ⟨fun (c : u < 0) => ?_, fun (c : ¬ u < 0) => ?_⟩
    · have : u = -1 := by grind
      subst this
      refine hax _ _ _ _ (lp_status ?_ 0 (by omega))
      refine hK _ _ ?_
      clear hcl hax
      clear cl ax
      refine mCall_k (fun K hK => ?_)
      refine mCall_sem MX9_status rfl rfl (Or.inl ⟨rfl, rfl, rfl⟩) rfl (mSem_wp MX9_status rfl aX9_status 300 [] (fun cl ax hcl hax => ?_))
      first | refine hcl _ _ _ _ (w_X9 (fun c1 c2 => absurd (And.intro c1 c2) (by assumption)) (fun _ => ?_)) | refine hcl _ _ _ _ (w_X9 (fun _ _ => ?_) (fun c0 => absurd (And.intro (by assumption) (by assumption)) c0))
      refine ⟨fun h9 => absurd h9 (by decide), fun _ => ?_⟩
      refine ⟨vl 0 rfl rfl, ?_⟩
      refine hK _ _ ⟨?_, rfl, h⟩
      show some (Value.int (fs (A 73) 7)) = some (Value.int (A 78 0))
      rw [f2, fs7]
    · obtain ⟨j, hj, rfl⟩ := ix_le 6 (by grind) b2 rfl
      have e8 : (nI j).toNatClampNeg = j := nI_clamp (by omega)
      have e9 : (nI j + 1).toNatClampNeg = j + 1 := by rw [nI_1]; exact nI_clamp (by omega)
      refine ⟨vp_in_nI (N := 7) (by omega) (by decide), ?_⟩
      refine hK _ _ ?_
      clear hcl hax
      clear cl ax
      refine mCall_k (fun K hK => ?_)
      refine mCall_sem MX9_status rfl rfl (Or.inl ⟨rfl, rfl, rfl⟩) rfl (mSem_wp MX9_status rfl aX9_status 300 [] (fun cl ax hcl hax => ?_))
      first | refine hcl _ _ _ _ (w_X9 (fun c1 c2 => absurd (And.intro c1 c2) (by assumption)) (fun _ => ?_)) | refine hcl _ _ _ _ (w_X9 (fun _ _ => ?_) (fun c0 => absurd (And.intro (by assumption) (by assumption)) c0))
      refine ⟨fun h9 => absurd h9 (by decide), fun _ => ?_⟩
      refine ⟨by rw [nI_1]; exact vp_in_nI (N := 8) (by omega) (by decide), ?_⟩
      refine hK _ _ ⟨?_, rfl, h⟩
      show some (Value.int (A 73 (nI j).toNatClampNeg)) = some (Value.int (A 78 (nI j + 1).toNatClampNeg))
      rw [e8, e9, f1 j (by omega)]
  · refine ⟨fun h9 => absurd h9 (by decide), fun _ => ?_⟩
    refine hcl _ _ _ _ (w_X8_refuse 0 (by decide) (by decide) ?_)
    refine hK _ _ ?_
    clear hcl hax
    clear cl ax
    refine mCall_k (fun K hK => ?_)
    refine mCall_sem MX9_status rfl rfl (Or.inl ⟨rfl, rfl, rfl⟩) rfl (mSem_wp MX9_status rfl aX9_status 300 [] (fun cl ax hcl hax => ?_))
    first | refine hcl _ _ _ _ (w_X9 (fun c1 c2 => absurd (And.intro c1 c2) (by assumption)) (fun _ => ?_)) | refine hcl _ _ _ _ (w_X9 (fun _ _ => ?_) (fun c0 => absurd (And.intro (by assumption) (by assumption)) c0))
    refine ⟨fun _ => ?_, fun h9 => absurd h9 (by decide)⟩
    exact hcl _ _ _ _ (w_X9_finding 0 (by decide) (by decide) (hK _ _ (rEnd_cnt h (by decide))))
