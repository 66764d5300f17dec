/-! house, as, edge -/
theorem w_build4 {E : ME} {d : Nat} {kd ln ft hd : Int32} {A : Nat → Nat → Int32} {B : Nat → Nat → Int64} {K : MK} {k : Nat} (hk : k < 12) (hx : A 4 0 = nI k) (hK : K (some (.int (nI k))) (SH, va_up (va_up (va_up (va_up (va_up (va_up A 5 (upd (A 5) k kd)) 6 (upd (A 6) k ln)) 7 (upd (A 7) k ft)) 8 (upd (A 8) k hd)) 9 (upd (A 9) k 0)) 4 (upd (A 4) 0 (nI (k + 1))), B)) : mCall E d nX1_build [.ref 4, .int kd, .int ln, .int ft, .int hd] (SH, A, B) K := by
  have e8 : k = (A 4 0).toNatClampNeg := by rw [hx, nI_clamp (by omega)]
  have hv : vp_in (A 4 0) 12 := by rw [hx]; exact vp_in_nI hk (by decide)
  have e7 : A 4 0 + 1 - 1 = nI k := by rw [hx]; grind
  have e6 : nI (k + 1) = A 4 0 + 1 := by rw [hx]; exact (nI_1 k).symm
  rw [← e7, e6, e8] at hK
  refine mCall_sem MX1_build rfl rfl (Or.inl ⟨rfl, rfl, rfl⟩) rfl (mSem_wp MX1_build rfl aX1_build 300 [] (fun cl ax hcl hax => ?_))
  refine ⟨hv, ?_⟩
  refine ⟨hv, ?_⟩
  refine ⟨hv, ?_⟩
  refine ⟨hv, ?_⟩
  refine ⟨hv, ?_⟩
  exact hK
theorem w_built {E : ME} {d : Nat} {kd ln ft hd : Int32} {A : Nat → Nat → Int32} {B : Nat → Nat → Int64} {K : MK} {k : Nat} (hk : k < 12) (hx : A 75 3 = nI k) (hK : K (some (.int (nI k))) (SH, va_up A 75 (upd (upd (upd (upd (upd (upd (A 75) (15 + 5 * k) kd) (16 + 5 * k) ln) (17 + 5 * k) ft) (18 + 5 * k) hd) (19 + 5 * k) 0) 3 (nI (k + 1))), B)) : mCall E d nX9_built [.ref 74, .int kd, .int ln, .int ft, .int hd] (SH, A, B) K := by
  have e0 : 15 + 5 * A 75 3 + 0 = nI (15 + 5 * k) := by rw [hx]; exact hIx k 0 _ (by omega)
  have e1 : 15 + 5 * A 75 3 + 1 = nI (16 + 5 * k) := by rw [hx]; exact hIx k 1 _ (by omega)
  have e2 : 15 + 5 * A 75 3 + 2 = nI (17 + 5 * k) := by rw [hx]; exact hIx k 2 _ (by omega)
  have e3 : 15 + 5 * A 75 3 + 3 = nI (18 + 5 * k) := by rw [hx]; exact hIx k 3 _ (by omega)
  have e4 : 15 + 5 * A 75 3 + 4 = nI (19 + 5 * k) := by rw [hx]; exact hIx k 4 _ (by omega)
  have e3' : (3 : Int32).toNatClampNeg = 3 := rfl
  refine mCall_sem MX9_built rfl rfl (Or.inl ⟨rfl, rfl, rfl⟩) rfl (mSem_wp MX9_built rfl aX9_built 300 [] (fun cl ax hcl hax => ?_))
  refine ⟨vl 3 rfl rfl, ?_⟩
  refine ⟨by rw [show (15 + 5 * (SH, A, B).2.1 75 (3 : Int32).toNatClampNeg + 0) = _ from e0]; exact vp_in_nI (N := 135) (by omega) (by decide), ?_⟩
  refine ⟨by rw [show (15 + 5 * (SH, A, B).2.1 75 (3 : Int32).toNatClampNeg + 1) = _ from e1]; exact vp_in_nI (N := 135) (by omega) (by decide), ?_⟩
  refine ⟨by rw [show (15 + 5 * (SH, A, B).2.1 75 (3 : Int32).toNatClampNeg + 2) = _ from e2]; exact vp_in_nI (N := 135) (by omega) (by decide), ?_⟩
  refine ⟨by rw [show (15 + 5 * (SH, A, B).2.1 75 (3 : Int32).toNatClampNeg + 3) = _ from e3]; exact vp_in_nI (N := 135) (by omega) (by decide), ?_⟩
  refine ⟨by rw [show (15 + 5 * (SH, A, B).2.1 75 (3 : Int32).toNatClampNeg + 4) = _ from e4]; exact vp_in_nI (N := 135) (by omega) (by decide), ?_⟩
  refine ⟨vl 3 rfl rfl, ?_⟩
  refine ⟨vl 3 rfl rfl, ?_⟩
  conv => whnf
  simp only [msetA, e3', up_s, bx_uu, e0, e1, e2, e3, e4, nI_clamp (show 15 + 5 * k < 2 ^ 31 by omega), nI_clamp (show 16 + 5 * k < 2 ^ 31 by omega), nI_clamp (show 17 + 5 * k < 2 ^ 31 by omega), nI_clamp (show 18 + 5 * k < 2 ^ 31 by omega), nI_clamp (show 19 + 5 * k < 2 ^ 31 by omega)]
  rw [ud_n (show 3 ≠ 19 + 5 * k by omega), ud_n (show 3 ≠ 18 + 5 * k by omega), ud_n (show 3 ≠ 17 + 5 * k by omega), ud_n (show 3 ≠ 16 + 5 * k by omega), ud_n (show 3 ≠ 15 + 5 * k by omega), hx, nI_1]
  exact hK
theorem rAll_house {A : Nat → Nat → Int32} {B : Nat → Nat → Int64} (h : rAll A B) {k : Nat} (hk : k < 12) (hx : A 4 0 = nI k) (hm : A 75 3 = nI k) {kd ln ft hd : Int32} (q1 : 0 ≤ kd ∧ kd ≤ 5) (q2 : 0 ≤ ln ∧ ln ≤ 8) (q3 : 0 ≤ ft ∧ ft < A 75 0) (q4 : 0 ≤ hd ∧ hd ≤ 99) : rAll (va_up (va_up (va_up (va_up (va_up (va_up (va_up A 5 (upd (A 5) k kd)) 6 (upd (A 6) k ln)) 7 (upd (A 7) k ft)) 8 (upd (A 8) k hd)) 9 (upd (A 9) k 0)) 4 (upd (A 4) 0 (nI (k + 1)))) 75 (upd (upd (upd (upd (upd (upd (A 75) (15 + 5 * k) kd) (16 + 5 * k) ln) (17 + 5 * k) ft) (18 + 5 * k) hd) (19 + 5 * k) 0) 3 (nI (k + 1)))) B := by
  obtain ⟨⟨hi, hh, hd', hs⟩, hk9, hf, ht, hsh⟩ := h
  have n : ∀ q, q ≠ 3 → ¬ (15 + 5 * k ≤ q ∧ q < 20 + 5 * k) → upd (upd (upd (upd (upd (upd (A 75) (15 + 5 * k) kd) (16 + 5 * k) ln) (17 + 5 * k) ft) (18 + 5 * k) hd) (19 + 5 * k) 0) 3 (nI (k + 1)) q = A 75 q := fun q a b => by
    rw [ud_n a, ud_n (by omega), ud_n (by omega), ud_n (by omega), ud_n (by omega), ud_n (by omega)]
  have hedge := hi.2.2.1
  refine ⟨⟨rIce_c hi rfl rfl (fun q hq => n q (by omega) (by omega)), ?_, rDee_c hd' rfl rfl rfl (fun q hq => n q (by omega) (by omega)), rSta_c hs rfl rfl rfl rfl rfl (fun q hq => n q (by omega) (by omega))⟩, hk9, hf, ht, hsh⟩
  · obtain ⟨k', k1, k2, k3, k4⟩ := hh
    have : k' = k := (nI_eq (by omega) (by omega)).mp (k3.symm.trans hm)
    subst this
    refine ⟨k' + 1, by omega, rfl, rfl, fun j hj => ?_⟩
    have n0 := n 0 (by omega) (by omega)
    by_cases hjk : j = k'
    · subst hjk
      have m0 : upd (upd (upd (upd (upd (upd (A 75) (15 + 5 * j) kd) (16 + 5 * j) ln) (17 + 5 * j) ft) (18 + 5 * j) hd) (19 + 5 * j) 0) 3 (nI (j + 1)) (15 + 5 * j) = kd := by
        rw [ud_n (by omega), ud_n (by omega), ud_n (by omega), ud_n (by omega), ud_n (by omega), ud_s]
      have m1 : upd (upd (upd (upd (upd (upd (A 75) (15 + 5 * j) kd) (16 + 5 * j) ln) (17 + 5 * j) ft) (18 + 5 * j) hd) (19 + 5 * j) 0) 3 (nI (j + 1)) (16 + 5 * j) = ln := by
        rw [ud_n (by omega), ud_n (by omega), ud_n (by omega), ud_n (by omega), ud_s]
      have m2 : upd (upd (upd (upd (upd (upd (A 75) (15 + 5 * j) kd) (16 + 5 * j) ln) (17 + 5 * j) ft) (18 + 5 * j) hd) (19 + 5 * j) 0) 3 (nI (j + 1)) (17 + 5 * j) = ft := by
        rw [ud_n (by omega), ud_n (by omega), ud_n (by omega), ud_s]
      have m3 : upd (upd (upd (upd (upd (upd (A 75) (15 + 5 * j) kd) (16 + 5 * j) ln) (17 + 5 * j) ft) (18 + 5 * j) hd) (19 + 5 * j) 0) 3 (nI (j + 1)) (18 + 5 * j) = hd := by
        rw [ud_n (by omega), ud_n (by omega), ud_s]
      have m4 : upd (upd (upd (upd (upd (upd (A 75) (15 + 5 * j) kd) (16 + 5 * j) ln) (17 + 5 * j) ft) (18 + 5 * j) hd) (19 + 5 * j) 0) 3 (nI (j + 1)) (19 + 5 * j) = 0 := by
        rw [ud_n (by omega), ud_s]
      simp only [va_up, Nat.reduceEqDiff, reduceIte, m0, m1, m2, m3, m4, n0, ud_s]
      clear n n0 m0 m1 m2 m3 m4 k4
      grind
    · have k5 := k4 j (by omega)
      have m0 := n (15 + 5 * j) (by omega) (by omega)
      have m1 := n (16 + 5 * j) (by omega) (by omega)
      have m2 := n (17 + 5 * j) (by omega) (by omega)
      have m3 := n (18 + 5 * j) (by omega) (by omega)
      have m4 := n (19 + 5 * j) (by omega) (by omega)
      simp only [va_up, Nat.reduceEqDiff, reduceIte, m0, m1, m2, m3, m4, n0, ud_n hjk]
      exact k5
theorem op_house {E : ME} {kd ln ft : Int32} {A : Nat → Nat → Int32} {B : Nat → Nat → Int64} (h : rAll A B) : rOp E nX8_house nX9_house [.int kd, .int ln, .int ft] A B := by
  obtain ⟨k, k12, kx, km, kh⟩ := rHou_at h.1.2.1
  have hice := h.1.1
  have hed := hice.2.2.1
  refine rOp_of (fun K hK => ?_)
  refine mCall_sem MX8_house rfl rfl (Or.inl ⟨rfl, rfl, rfl⟩) rfl (mSem_wp MX8_house rfl aX8_house 300 [] (fun cl ax hcl hax => ?_))
  refine hcl _ _ _ _ (w_X8_isKind (fun a1 a2 => ?_) (fun a0 => ?_))
  · refine ⟨fun h9 => absurd h9 (by decide), fun _ => ?_⟩
    refine hcl _ _ _ _ (w_X8_isLane (fun b1 b2 => ?_) (fun b0 => ?_))
    · refine ⟨fun h9 => absurd h9 (by decide), fun _ => ?_⟩
      refine hcl _ _ _ _ (w_X8_isOnIce (n := A 75 0) hice.1.1 (fun d1 d2 => ?_) (fun d0 => ?_))
      · refine ⟨fun _ => ?_, fun h9 => absurd h9 (by decide)⟩
        refine ⟨fun c => ?_, fun c => ?_⟩
        · have c : A 4 0 < 12 := c
          rw [kx] at c
          have hk : k < 12 := (nI_ltI (b := 12) (by omega) (by decide)).mp c
          refine hcl _ _ _ _ (w_build4 hk kx ?_)
          refine hK _ _ ?_
          clear hcl hax
          clear cl ax
          refine mCall_k (fun K hK => ?_)
          refine mCall_sem MX9_house rfl rfl (Or.inl ⟨rfl, rfl, rfl⟩) rfl (mSem_wp MX9_house rfl aX9_house 300 [] (fun cl ax hcl hax => ?_))
          first | refine hcl _ _ _ _ (w_X9 (fun c1 c2 => absurd (And.intro c1 c2) (by assumption)) (fun _ => ?_)) | refine hcl _ _ _ _ (w_X9 (fun _ _ => ?_) (fun c0 => absurd (And.intro (by assumption) (by assumption)) c0))
          refine ⟨fun h9 => absurd h9 (by decide), fun _ => ?_⟩
          first | refine hcl _ _ _ _ (w_X9_isLane (fun c1 c2 => absurd (And.intro c1 c2) (by assumption)) (fun _ => ?_)) | refine hcl _ _ _ _ (w_X9_isLane (fun _ _ => ?_) (fun c0 => absurd (And.intro (by assumption) (by assumption)) c0))
          refine ⟨fun h9 => absurd h9 (by decide), fun _ => ?_⟩
          refine ⟨vl 0 rfl rfl, ?_⟩
          refine hcl _ _ _ _ (w_X9 (fun _ _ => ?_) (fun c0 => absurd (And.intro d1 d2) c0))
          refine ⟨fun _ => ?_, fun h9 => absurd h9 (by decide)⟩
          refine ⟨vl 3 rfl rfl, ?_⟩
          refine ⟨fun _ => ?_, fun (c2 : A 75 3 = 12) => ?_⟩
          · refine hcl _ _ _ _ (w_built hk km ?_)
            exact hK _ _ ⟨rfl, rfl, rAll_house h hk kx km ⟨a1, a2⟩ ⟨b1, b2⟩ ⟨d1, by grind⟩ ⟨by decide, by decide⟩⟩
          · exfalso
            rw [km] at c2
            grind
        · have c : ¬ A 4 0 < 12 := c
          rw [kx] at c
          have hk : k = 12 := by
            rcases Nat.lt_or_ge k 12 with q | q
            · exact absurd ((nI_ltI (b := 12) (by omega) (by decide)).mpr q) c
            · omega
          subst hk
          refine hcl _ _ _ _ (w_X8_refuse 1 (by decide) (by decide) ?_)
          refine hK _ _ ?_
          clear hcl hax
          clear cl ax
          refine mCall_k (fun K hK => ?_)
          refine mCall_sem MX9_house rfl rfl (Or.inl ⟨rfl, rfl, rfl⟩) rfl (mSem_wp MX9_house rfl aX9_house 300 [] (fun cl ax hcl hax => ?_))
          first | refine hcl _ _ _ _ (w_X9 (fun c1 c2 => absurd (And.intro c1 c2) (by assumption)) (fun _ => ?_)) | refine hcl _ _ _ _ (w_X9 (fun _ _ => ?_) (fun c0 => absurd (And.intro (by assumption) (by assumption)) c0))
          refine ⟨fun h9 => absurd h9 (by decide), fun _ => ?_⟩
          first | refine hcl _ _ _ _ (w_X9_isLane (fun c1 c2 => absurd (And.intro c1 c2) (by assumption)) (fun _ => ?_)) | refine hcl _ _ _ _ (w_X9_isLane (fun _ _ => ?_) (fun c0 => absurd (And.intro (by assumption) (by assumption)) c0))
          refine ⟨fun h9 => absurd h9 (by decide), fun _ => ?_⟩
          refine ⟨vl 0 rfl rfl, ?_⟩
          refine hcl _ _ _ _ (w_X9 (fun _ _ => ?_) (fun c0 => absurd (And.intro d1 d2) c0))
          refine ⟨fun _ => ?_, fun h9 => absurd h9 (by decide)⟩
          refine ⟨vl 3 rfl rfl, ?_⟩
          refine ⟨fun (c2 : ¬ A 75 3 = 12) => absurd km c2, fun _ => ?_⟩
          exact hcl _ _ _ _ (w_X9_finding 1 (by decide) (by decide) (hK _ _ (rEnd_cnt h (by decide))))
      · refine ⟨fun h9 => absurd h9 (by decide), fun _ => ?_⟩
        refine hcl _ _ _ _ (w_X8_refuse 0 (by decide) (by decide) ?_)
        refine hK _ _ ?_
        clear hcl hax
        clear cl ax
        refine mCall_k (fun K hK => ?_)
        refine mCall_sem MX9_house rfl rfl (Or.inl ⟨rfl, rfl, rfl⟩) rfl (mSem_wp MX9_house rfl aX9_house 300 [] (fun cl ax hcl hax => ?_))
        first | refine hcl _ _ _ _ (w_X9 (fun c1 c2 => absurd (And.intro c1 c2) (by assumption)) (fun _ => ?_)) | refine hcl _ _ _ _ (w_X9 (fun _ _ => ?_) (fun c0 => absurd (And.intro (by assumption) (by assumption)) c0))
        refine ⟨fun h9 => absurd h9 (by decide), fun _ => ?_⟩
        first | refine hcl _ _ _ _ (w_X9_isLane (fun c1 c2 => absurd (And.intro c1 c2) (by assumption)) (fun _ => ?_)) | refine hcl _ _ _ _ (w_X9_isLane (fun _ _ => ?_) (fun c0 => absurd (And.intro (by assumption) (by assumption)) c0))
        refine ⟨fun h9 => absurd h9 (by decide), fun _ => ?_⟩
        refine ⟨vl 0 rfl rfl, ?_⟩
        refine hcl _ _ _ _ (w_X9 (fun c1 c2 => absurd (And.intro c1 c2) d0) (fun _ => ?_))
        refine ⟨fun h9 => absurd h9 (by decide), fun _ => ?_⟩
        exact hcl _ _ _ _ (w_X9_finding 0 (by decide) (by decide) (hK _ _ (rEnd_cnt h (by decide))))
    · refine ⟨fun _ => ?_, fun h9 => absurd h9 (by decide)⟩
      refine hcl _ _ _ _ (w_X8_refuse 0 (by decide) (by decide) ?_)
      refine hK _ _ ?_
      clear hcl hax
      clear cl ax
      refine mCall_k (fun K hK => ?_)
      refine mCall_sem MX9_house rfl rfl (Or.inl ⟨rfl, rfl, rfl⟩) rfl (mSem_wp MX9_house rfl aX9_house 300 [] (fun cl ax hcl hax => ?_))
      repeat (first | exact hcl _ _ _ _ (w_X9_finding 0 (by decide) (by decide) (hK _ _ (rEnd_cnt h (by decide)))) | refine ⟨fun _ => ?_, fun h9 => absurd h9 (by decide)⟩ | refine ⟨fun h9 => absurd h9 (by decide), fun _ => ?_⟩ | (first | refine hcl _ _ _ _ (w_X9 (fun c1 c2 => absurd (And.intro c1 c2) (by assumption)) (fun _ => ?_)) | refine hcl _ _ _ _ (w_X9 (fun _ _ => ?_) (fun c0 => absurd (And.intro (by assumption) (by assumption)) c0))) | (first | refine hcl _ _ _ _ (w_X9_isLane (fun c1 c2 => absurd (And.intro c1 c2) (by assumption)) (fun _ => ?_)) | refine hcl _ _ _ _ (w_X9_isLane (fun _ _ => ?_) (fun c0 => absurd (And.intro (by assumption) (by assumption)) c0))))
  · refine ⟨fun _ => ?_, fun h9 => absurd h9 (by decide)⟩
    refine hcl _ _ _ _ (w_X8_refuse 0 (by decide) (by decide) ?_)
    refine hK _ _ ?_
    clear hcl hax
    clear cl ax
    refine mCall_k (fun K hK => ?_)
    refine mCall_sem MX9_house rfl rfl (Or.inl ⟨rfl, rfl, rfl⟩) rfl (mSem_wp MX9_house rfl aX9_house 300 [] (fun cl ax hcl hax => ?_))
    repeat (first | exact hcl _ _ _ _ (w_X9_finding 0 (by decide) (by decide) (hK _ _ (rEnd_cnt h (by decide)))) | refine ⟨fun _ => ?_, fun h9 => absurd h9 (by decide)⟩ | refine ⟨fun h9 => absurd h9 (by decide), fun _ => ?_⟩ | (first | refine hcl _ _ _ _ (w_X9 (fun c1 c2 => absurd (And.intro c1 c2) (by assumption)) (fun _ => ?_)) | refine hcl _ _ _ _ (w_X9 (fun _ _ => ?_) (fun c0 => absurd (And.intro (by assumption) (by assumption)) c0))) | (first | refine hcl _ _ _ _ (w_X9_isLane (fun c1 c2 => absurd (And.intro c1 c2) (by assumption)) (fun _ => ?_)) | refine hcl _ _ _ _ (w_X9_isLane (fun _ _ => ?_) (fun c0 => absurd (And.intro (by assumption) (by assumption)) c0))))
/-! as -/
def un (a b : Int32) : Prop := b = a ∨ b = 0 ∨ (a = 3 ∧ b = 1) ∨ (a = 4 ∧ b = 2)
theorem w_under {E : ME} {d : Nat} {a b : Int32} {h : MH} {K : MK} (h0 : 0 ≤ a) (h5 : a ≤ 5) (b0 : 0 ≤ b) (b5 : b ≤ 5) (k1 : un a b → K (some (.int 1)) h) (k0 : ¬ un a b → K (some (.int 0)) h) : mCall E (d + 2) nX8_isOrIsUnder [.int a, .int b] h K := by
  obtain ⟨k, hk, rfl⟩ := ix_le 5 h0 h5 rfl
  have yes : un (nI k) b → K (some (.int 1)) h := k1
  have no : ¬ un (nI k) b → K (some (.int 0)) h := k0
  unfold un at yes no
  have u : ∀ (i : Nat), i < 6 → vp_in (nI i) 6 := fun i hi => vp_in_nI hi (by decide)
  rcases (show k = 0 ∨ k = 1 ∨ k = 2 ∨ k = 3 ∨ k = 4 ∨ k = 5 by omega) with rfl | rfl | rfl | rfl | rfl | rfl
  · refine mCall_sem MX8_isOrIsUnder rfl rfl (Or.inl ⟨rfl, rfl, rfl⟩) rfl (mSem_wp MX8_isOrIsUnder rfl aX8_isOrIsUnder 300 [] (fun cl ax hcl hax => ?_))
    refine ⟨fun h9 => absurd h9 (by decide), fun _ => ?_⟩
    refine hcl _ _ _ _ (w_X8_isKind (fun _ _ => ?_) (fun c0 => absurd (by decide) c0))
    refine ⟨fun h9 => absurd h9 (by decide), fun _ => ?_⟩
    refine ⟨fun c => ?_, fun c => ⟨rfl, yes (Or.inl c.symm)⟩⟩
    refine ⟨u 0 (by decide), ?_⟩
    refine ⟨fun h9 => absurd h9 (by decide), fun _ => ?_⟩
    refine hcl _ _ _ _ (w_X8_isKind (fun c _ => absurd c (by decide)) (fun _ => ?_))
    refine ⟨fun _ => ?_, fun h9 => absurd h9 (by decide)⟩
    exact ⟨rfl, no (by rintro (q | q | q | q) <;> first | exact c q.symm | exact absurd q.1 (by decide))⟩
  · refine mCall_sem MX8_isOrIsUnder rfl rfl (Or.inl ⟨rfl, rfl, rfl⟩) rfl (mSem_wp MX8_isOrIsUnder rfl aX8_isOrIsUnder 300 [] (fun cl ax hcl hax => ?_))
    refine ⟨fun h9 => absurd h9 (by decide), fun _ => ?_⟩
    refine hcl _ _ _ _ (w_X8_isKind (fun _ _ => ?_) (fun c0 => absurd (by decide) c0))
    refine ⟨fun h9 => absurd h9 (by decide), fun _ => ?_⟩
    refine ⟨fun c => ?_, fun c => ⟨rfl, yes (Or.inl c.symm)⟩⟩
    refine ⟨u 1 (by decide), ?_⟩
    refine ⟨fun h9 => absurd h9 (by decide), fun _ => ?_⟩
    refine hcl _ _ _ _ (w_X8_isKind (fun _ _ => ?_) (fun c0 => absurd (by decide) c0))
    refine ⟨fun h9 => absurd h9 (by decide), fun _ => ?_⟩
    refine ⟨fun (c2 : ¬ (0 : Int32) = b) => ?_, fun (c2 : (0 : Int32) = b) => ⟨rfl, yes (Or.inr (Or.inl c2.symm))⟩⟩
    refine ⟨u 0 (by decide), ?_⟩
    refine ⟨fun h9 => absurd h9 (by decide), fun _ => ?_⟩
    refine hcl _ _ _ _ (w_X8_isKind (fun c _ => absurd c (by decide)) (fun _ => ?_))
    refine ⟨fun _ => ?_, fun h9 => absurd h9 (by decide)⟩
    exact ⟨rfl, no (by rintro (q | q | q | q) <;> first | exact c q.symm | exact c2 q.symm | exact absurd q.1 (by decide))⟩
  · refine mCall_sem MX8_isOrIsUnder rfl rfl (Or.inl ⟨rfl, rfl, rfl⟩) rfl (mSem_wp MX8_isOrIsUnder rfl aX8_isOrIsUnder 300 [] (fun cl ax hcl hax => ?_))
    refine ⟨fun h9 => absurd h9 (by decide), fun _ => ?_⟩
    refine hcl _ _ _ _ (w_X8_isKind (fun _ _ => ?_) (fun c0 => absurd (by decide) c0))
    refine ⟨fun h9 => absurd h9 (by decide), fun _ => ?_⟩
    refine ⟨fun c => ?_, fun c => ⟨rfl, yes (Or.inl c.symm)⟩⟩
    refine ⟨u 2 (by decide), ?_⟩
    refine ⟨fun h9 => absurd h9 (by decide), fun _ => ?_⟩
    refine hcl _ _ _ _ (w_X8_isKind (fun _ _ => ?_) (fun c0 => absurd (by decide) c0))
    refine ⟨fun h9 => absurd h9 (by decide), fun _ => ?_⟩
    refine ⟨fun (c2 : ¬ (0 : Int32) = b) => ?_, fun (c2 : (0 : Int32) = b) => ⟨rfl, yes (Or.inr (Or.inl c2.symm))⟩⟩
    refine ⟨u 0 (by decide), ?_⟩
    refine ⟨fun h9 => absurd h9 (by decide), fun _ => ?_⟩
    refine hcl _ _ _ _ (w_X8_isKind (fun c _ => absurd c (by decide)) (fun _ => ?_))
    refine ⟨fun _ => ?_, fun h9 => absurd h9 (by decide)⟩
    exact ⟨rfl, no (by rintro (q | q | q | q) <;> first | exact c q.symm | exact c2 q.symm | exact absurd q.1 (by decide))⟩
  · refine mCall_sem MX8_isOrIsUnder rfl rfl (Or.inl ⟨rfl, rfl, rfl⟩) rfl (mSem_wp MX8_isOrIsUnder rfl aX8_isOrIsUnder 300 [] (fun cl ax hcl hax => ?_))
    refine ⟨fun h9 => absurd h9 (by decide), fun _ => ?_⟩
    refine hcl _ _ _ _ (w_X8_isKind (fun _ _ => ?_) (fun c0 => absurd (by decide) c0))
    refine ⟨fun h9 => absurd h9 (by decide), fun _ => ?_⟩
    refine ⟨fun c => ?_, fun c => ⟨rfl, yes (Or.inl c.symm)⟩⟩
    refine ⟨u 3 (by decide), ?_⟩
    refine ⟨fun h9 => absurd h9 (by decide), fun _ => ?_⟩
    refine hcl _ _ _ _ (w_X8_isKind (fun _ _ => ?_) (fun c0 => absurd (by decide) c0))
    refine ⟨fun h9 => absurd h9 (by decide), fun _ => ?_⟩
    refine ⟨fun (c3 : ¬ (1 : Int32) = b) => ?_, fun (c3 : (1 : Int32) = b) => ⟨rfl, yes (Or.inr (Or.inr (Or.inl ⟨rfl, c3.symm⟩)))⟩⟩
    refine ⟨u 1 (by decide), ?_⟩
    refine ⟨fun h9 => absurd h9 (by decide), fun _ => ?_⟩
    refine hcl _ _ _ _ (w_X8_isKind (fun _ _ => ?_) (fun c0 => absurd (by decide) c0))
    refine ⟨fun h9 => absurd h9 (by decide), fun _ => ?_⟩
    refine ⟨fun (c2 : ¬ (0 : Int32) = b) => ?_, fun (c2 : (0 : Int32) = b) => ⟨rfl, yes (Or.inr (Or.inl c2.symm))⟩⟩
    refine ⟨u 0 (by decide), ?_⟩
    refine ⟨fun h9 => absurd h9 (by decide), fun _ => ?_⟩
    refine hcl _ _ _ _ (w_X8_isKind (fun c _ => absurd c (by decide)) (fun _ => ?_))
    refine ⟨fun _ => ?_, fun h9 => absurd h9 (by decide)⟩
    exact ⟨rfl, no (by rintro (q | q | q | q) <;> first | exact c q.symm | exact c2 q.symm | exact c3 q.2.symm | exact absurd q.1 (by decide))⟩
  · refine mCall_sem MX8_isOrIsUnder rfl rfl (Or.inl ⟨rfl, rfl, rfl⟩) rfl (mSem_wp MX8_isOrIsUnder rfl aX8_isOrIsUnder 300 [] (fun cl ax hcl hax => ?_))
    refine ⟨fun h9 => absurd h9 (by decide), fun _ => ?_⟩
    refine hcl _ _ _ _ (w_X8_isKind (fun _ _ => ?_) (fun c0 => absurd (by decide) c0))
    refine ⟨fun h9 => absurd h9 (by decide), fun _ => ?_⟩
    refine ⟨fun c => ?_, fun c => ⟨rfl, yes (Or.inl c.symm)⟩⟩
    refine ⟨u 4 (by decide), ?_⟩
    refine ⟨fun h9 => absurd h9 (by decide), fun _ => ?_⟩
    refine hcl _ _ _ _ (w_X8_isKind (fun _ _ => ?_) (fun c0 => absurd (by decide) c0))
    refine ⟨fun h9 => absurd h9 (by decide), fun _ => ?_⟩
    refine ⟨fun (c3 : ¬ (2 : Int32) = b) => ?_, fun (c3 : (2 : Int32) = b) => ⟨rfl, yes (Or.inr (Or.inr (Or.inr ⟨rfl, c3.symm⟩)))⟩⟩
    refine ⟨u 2 (by decide), ?_⟩
    refine ⟨fun h9 => absurd h9 (by decide), fun _ => ?_⟩
    refine hcl _ _ _ _ (w_X8_isKind (fun _ _ => ?_) (fun c0 => absurd (by decide) c0))
    refine ⟨fun h9 => absurd h9 (by decide), fun _ => ?_⟩
    refine ⟨fun (c2 : ¬ (0 : Int32) = b) => ?_, fun (c2 : (0 : Int32) = b) => ⟨rfl, yes (Or.inr (Or.inl c2.symm))⟩⟩
    refine ⟨u 0 (by decide), ?_⟩
    refine ⟨fun h9 => absurd h9 (by decide), fun _ => ?_⟩
    refine hcl _ _ _ _ (w_X8_isKind (fun c _ => absurd c (by decide)) (fun _ => ?_))
    refine ⟨fun _ => ?_, fun h9 => absurd h9 (by decide)⟩
    exact ⟨rfl, no (by rintro (q | q | q | q) <;> first | exact c q.symm | exact c2 q.symm | exact c3 q.2.symm | exact absurd q.1 (by decide))⟩
  · refine mCall_sem MX8_isOrIsUnder rfl rfl (Or.inl ⟨rfl, rfl, rfl⟩) rfl (mSem_wp MX8_isOrIsUnder rfl aX8_isOrIsUnder 300 [] (fun cl ax hcl hax => ?_))
    refine ⟨fun h9 => absurd h9 (by decide), fun _ => ?_⟩
    refine hcl _ _ _ _ (w_X8_isKind (fun _ _ => ?_) (fun c0 => absurd (by decide) c0))
    refine ⟨fun h9 => absurd h9 (by decide), fun _ => ?_⟩
    refine ⟨fun c => ?_, fun c => ⟨rfl, yes (Or.inl c.symm)⟩⟩
    refine ⟨u 5 (by decide), ?_⟩
    refine ⟨fun h9 => absurd h9 (by decide), fun _ => ?_⟩
    refine hcl _ _ _ _ (w_X8_isKind (fun _ _ => ?_) (fun c0 => absurd (by decide) c0))
    refine ⟨fun h9 => absurd h9 (by decide), fun _ => ?_⟩
    refine ⟨fun (c2 : ¬ (0 : Int32) = b) => ?_, fun (c2 : (0 : Int32) = b) => ⟨rfl, yes (Or.inr (Or.inl c2.symm))⟩⟩
    refine ⟨u 0 (by decide), ?_⟩
    refine ⟨fun h9 => absurd h9 (by decide), fun _ => ?_⟩
    refine hcl _ _ _ _ (w_X8_isKind (fun c _ => absurd c (by decide)) (fun _ => ?_))
    refine ⟨fun _ => ?_, fun h9 => absurd h9 (by decide)⟩
    exact ⟨rfl, no (by rintro (q | q | q | q) <;> first | exact c q.symm | exact c2 q.symm | exact absurd q.1 (by decide))⟩
theorem w_above {E : ME} {d : Nat} {a : Int32} {h : MH} {K : MK} (hK : K (some (.int (if a = 0 then -1 else if a = 3 then 1 else if a = 4 then 2 else 0))) h) : mCall E d nX9_above [.int a] h K := by
  refine mCall_sem MX9_above rfl rfl (Or.inl ⟨rfl, rfl, rfl⟩) rfl (mSem_wp MX9_above rfl aX9_above 300 [] (fun cl ax hcl hax => ?_))
  refine ⟨fun c => ⟨fun c2 => ⟨fun c3 => ?_, fun c3 => ?_⟩, fun c2 => ?_⟩, fun c => ?_⟩
  · rw [if_neg c, if_neg c2, if_neg c3] at hK; exact hK
  · rw [if_neg c, if_neg c2, if_pos c3] at hK; exact hK
  · rw [if_neg c, if_pos c2] at hK; exact hK
  · rw [if_pos c] at hK; exact hK
/-- up the kinds: what is left of the way -/
def ht (a : Int32) : Nat := if a < 0 then 0 else if a = 0 then 1 else if a = 3 ∨ a = 4 then 3 else 2
theorem lp_X9_as {E : ME} {d : Nat} {A : Nat → Nat → Int32} {B : Nat → Nat → Int64} {K : MK} {j : Nat} (hj : j < 12) {b : Int32} (b0 : 0 ≤ b) (k1 : K (some (.int (A 75 (17 + 5 * j)))) (SH, A, B)) : ∀ a, (-1 ≤ a ∧ a ≤ 5 ∧ (¬ un a b ∨ a < 0 → K (some (.int (-1000000003))) (SH, cnt2 A 2, B))) → mSem E (d + 2) nX9_as (SH, A, B) 0 0 K 31 [some (.ref 74), some (.int (nI j)), some (.int b), some (.int a)] [] (SH, A, B) := by
  refine mSem_loop MX9_as rfl aX9_as 300 [31] (fun a => [some (.ref 74), some (.int (nI j)), some (.int b), some (.int a)]) (fun a => (SH, A, B)) (fun a => -1 ≤ a ∧ a ≤ 5 ∧ (¬ un a b ∨ a < 0 → K (some (.int (-1000000003))) (SH, cnt2 A 2, B))) (fun a => ht a) ?_
  intro a ha cl ax hcl hax hlp
  obtain ⟨a1, a5, ak⟩ := ha
  refine ⟨fun c => ?_, fun c => ⟨fun c2 => ?_, fun c2 => ?_⟩⟩
  · refine ⟨fun c3 => absurd c3 (by grind), fun _ => ?_⟩
    refine hcl _ _ _ _ (w_X9_finding 2 (by decide) (by decide) ?_)
    exact ak (Or.inr c)
  · refine ⟨fun _ => ?_, fun c3 => absurd c3 (by grind)⟩
    exact hcl _ _ _ _ (w_houseIs (17 + 5 * j) (by omega) (hIx j 2 _ (by omega)) k1)
  · refine hcl _ _ _ _ (w_above ?_)
    have this : ax 31 [some (.ref 74), some (.int (nI j)), some (.int b), some (.int (if a = 0 then -1 else if a = 3 then 1 else if a = 4 then 2 else 0))] [] (SH, A, B) := hlp (if a = 0 then -1 else if a = 3 then 1 else if a = 4 then 2 else 0) ?_ ?_
    · exact this
    · refine ⟨by split <;> [decide; (split <;> [decide; (split <;> decide)])], by split <;> [decide; (split <;> [decide; (split <;> decide)])], fun q => ak ?_⟩
      left
      unfold un at q ⊢
      clear hcl hax hlp ak
      split at q
      · grind
      · split at q
        · grind
        · split at q <;> grind
    · show ht _ < ht a
      unfold ht
      clear hcl hax hlp ak
      split
      · rename_i h0
        subst h0
        decide
      · split
        · rename_i h3
          subst h3
          decide
        · split
          · rename_i h4
            subst h4
            decide
          · rw [if_neg c, if_neg (by assumption)]
            split <;> decide
theorem op_as {E : ME} {v u : Int32} {A : Nat → Nat → Int32} {B : Nat → Nat → Int64} (h : rAll A B) : rOp E nX8_as nX9_as [.int v, .int u] A B := by
  obtain ⟨k, k12, kx, km, kh⟩ := rHou_at h.1.2.1
  refine rOp_of (fun K hK => ?_)
  refine mCall_sem MX8_as rfl rfl (Or.inl ⟨rfl, rfl, rfl⟩) rfl (mSem_wp MX8_as rfl aX8_as 300 [] (fun cl ax hcl hax => ?_))
  refine hcl _ _ _ _ (w_X8_isHouse kx (fun a1 a2 => ?_) (fun a0 => ?_))
  · refine ⟨fun h9 => absurd h9 (by decide), fun _ => ?_⟩
    refine hcl _ _ _ _ (w_X8_isKind (fun b1 b2 => ?_) (fun b0 => ?_))
    · refine ⟨fun _ => ?_, fun h9 => absurd h9 (by decide)⟩
      obtain ⟨j, hj, rfl⟩ := ho_ix k12 a1 a2
      have kj := kh j hj
      have e8 : (nI j).toNatClampNeg = j := nI_clamp (by omega)
      have hv : vp_in (nI j) 12 := vp_in_nI (by omega) (by decide)
      refine ⟨hv, ?_⟩
      have e5 : (SH, A, B).2.1 5 (nI j).toNatClampNeg = A 75 (15 + 5 * j) := by
        rw [e8]; exact kj.1.1
      rw [e5]
      refine hcl _ _ _ _ (w_under kj.2.1.1 kj.2.1.2 b1 b2 (fun c => ?_) (fun c => ?_))
      · refine ⟨fun _ => ?_, fun h9 => absurd h9 (by decide)⟩
        refine ⟨hv, ?_⟩
        refine hK _ _ ?_
        clear hcl hax
        clear cl ax
        refine mCall_k (fun K hK => ?_)
        refine mCall_sem MX9_as rfl rfl (Or.inl ⟨rfl, rfl, rfl⟩) rfl (mSem_wp MX9_as rfl aX9_as 300 [31] (fun cl ax hcl hax => ?_))
        first | refine hcl _ _ _ _ (w_X9_isHouse (n := nI k) km (fun c1 c2 => absurd (And.intro c1 c2) (by assumption)) (fun _ => ?_)) | refine hcl _ _ _ _ (w_X9_isHouse (n := nI k) km (fun _ _ => ?_) (fun c0 => absurd (And.intro (by assumption) (by assumption)) c0))
        refine ⟨fun h9 => absurd h9 (by decide), fun _ => ?_⟩
        first | refine hcl _ _ _ _ (w_X9 (fun c1 c2 => absurd (And.intro c1 c2) (by assumption)) (fun _ => ?_)) | refine hcl _ _ _ _ (w_X9 (fun _ _ => ?_) (fun c0 => absurd (And.intro (by assumption) (by assumption)) c0))
        refine ⟨fun _ => ?_, fun h9 => absurd h9 (by decide)⟩
        refine hcl _ _ _ _ (w_houseIs (15 + 5 * j) (by omega) (hIx j 0 _ (by omega)) ?_)
        refine hax _ _ _ _ (lp_X9_as (by omega) b1 ?_ _ ⟨by grind, kj.2.1.2, fun q => ?_⟩)
        · refine hK _ _ ⟨?_, rfl, h⟩
          show some (Value.int (A 7 (nI j).toNatClampNeg)) = some (Value.int (A 75 (17 + 5 * j)))
          rw [e8]
          grind
        · exfalso
          grind
      · refine ⟨fun h9 => absurd h9 (by decide), fun _ => ?_⟩
        refine hcl _ _ _ _ (w_X8_refuse 2 (by decide) (by decide) ?_)
        refine hK _ _ ?_
        clear hcl hax
        clear cl ax
        refine mCall_k (fun K hK => ?_)
        refine mCall_sem MX9_as rfl rfl (Or.inl ⟨rfl, rfl, rfl⟩) rfl (mSem_wp MX9_as rfl aX9_as 300 [31] (fun cl ax hcl hax => ?_))
        first | refine hcl _ _ _ _ (w_X9_isHouse (n := nI k) km (fun c1 c2 => absurd (And.intro c1 c2) (by assumption)) (fun _ => ?_)) | refine hcl _ _ _ _ (w_X9_isHouse (n := nI k) km (fun _ _ => ?_) (fun c0 => absurd (And.intro (by assumption) (by assumption)) c0))
        refine ⟨fun h9 => absurd h9 (by decide), fun _ => ?_⟩
        first | refine hcl _ _ _ _ (w_X9 (fun c1 c2 => absurd (And.intro c1 c2) (by assumption)) (fun _ => ?_)) | refine hcl _ _ _ _ (w_X9 (fun _ _ => ?_) (fun c0 => absurd (And.intro (by assumption) (by assumption)) c0))
        refine ⟨fun _ => ?_, fun h9 => absurd h9 (by decide)⟩
        refine hcl _ _ _ _ (w_houseIs (15 + 5 * j) (by omega) (hIx j 0 _ (by omega)) ?_)
        sorry
    · refine ⟨fun h9 => absurd h9 (by decide), fun _ => ?_⟩
      refine hcl _ _ _ _ (w_X8_refuse 0 (by decide) (by decide) ?_)
      refine hK _ _ ?_
      clear hcl hax
      clear cl ax
      refine mCall_k (fun K hK => ?_)
      refine mCall_sem MX9_as rfl rfl (Or.inl ⟨rfl, rfl, rfl⟩) rfl (mSem_wp MX9_as rfl aX9_as 300 [] (fun cl ax hcl hax => ?_))
      repeat (first | exact hcl _ _ _ _ (w_X9_finding 0 (by decide) (by decide) (hK _ _ (rEnd_cnt h (by decide)))) | refine ⟨fun _ => ?_, fun h9 => absurd h9 (by decide)⟩ | refine ⟨fun h9 => absurd h9 (by decide), fun _ => ?_⟩ | (first | refine hcl _ _ _ _ (w_X9_isHouse (n := nI k) km (fun c1 c2 => absurd (And.intro c1 c2) (by assumption)) (fun _ => ?_)) | refine hcl _ _ _ _ (w_X9_isHouse (n := nI k) km (fun _ _ => ?_) (fun c0 => absurd (And.intro (by assumption) (by assumption)) c0))) | (first | refine hcl _ _ _ _ (w_X9 (fun c1 c2 => absurd (And.intro c1 c2) (by assumption)) (fun _ => ?_)) | refine hcl _ _ _ _ (w_X9 (fun _ _ => ?_) (fun c0 => absurd (And.intro (by assumption) (by assumption)) c0))))
  · refine ⟨fun _ => ?_, fun h9 => absurd h9 (by decide)⟩
    refine hcl _ _ _ _ (w_X8_refuse 0 (by decide) (by decide) ?_)
    refine hK _ _ ?_
    clear hcl hax
    clear cl ax
    refine mCall_k (fun K hK => ?_)
    refine mCall_sem MX9_as rfl rfl (Or.inl ⟨rfl, rfl, rfl⟩) rfl (mSem_wp MX9_as rfl aX9_as 300 [] (fun cl ax hcl hax => ?_))
    repeat (first | exact hcl _ _ _ _ (w_X9_finding 0 (by decide) (by decide) (hK _ _ (rEnd_cnt h (by decide)))) | refine ⟨fun _ => ?_, fun h9 => absurd h9 (by decide)⟩ | refine ⟨fun h9 => absurd h9 (by decide), fun _ => ?_⟩ | (first | refine hcl _ _ _ _ (w_X9_isHouse (n := nI k) km (fun c1 c2 => absurd (And.intro c1 c2) (by assumption)) (fun _ => ?_)) | refine hcl _ _ _ _ (w_X9_isHouse (n := nI k) km (fun _ _ => ?_) (fun c0 => absurd (And.intro (by assumption) (by assumption)) c0))) | (first | refine hcl _ _ _ _ (w_X9 (fun c1 c2 => absurd (And.intro c1 c2) (by assumption)) (fun _ => ?_)) | refine hcl _ _ _ _ (w_X9 (fun _ _ => ?_) (fun c0 => absurd (And.intro (by assumption) (by assumption)) c0))))
