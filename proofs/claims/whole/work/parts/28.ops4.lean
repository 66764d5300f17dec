/-! house, as, edge -/
theorem w_build4 {E : ME} {d : Nat} {kd ln ft hd : Int32} {A : Nat → Nat → Int32} {B : Nat → Nat → Int64} {K : MK} {k : Nat} (hk : k < 12) (hx : A 4 0 = nI k) (hK : K (some (.int (nI k))) (SH, va_up (va_up (va_up (va_up (va_up (va_up A 5 (upd (A 5) k kd)) 6 (upd (A 6) k ln)) 7 (upd (A 7) k ft)) 8 (upd (A 8) k hd)) 9 (upd (A 9) k 0)) 4 (upd (A 4) 0 (nI (k + 1))), B)) : mCall E d nX1_build [.ref 4, .int kd, .int ln, .int ft, .int hd] (SH, A, B) K := by
  have e8 : k = (A 4 0).toNatClampNeg := by rw [hx, nI_clamp (by omega)]
  have hv : vp_in (A 4 0) 12 := by rw [hx]; exact vp_in_nI hk (by decide)
  have e7 : A 4 0 + 1 - 1 = nI k := by rw [hx]; grind
  have e6 : nI (k + 1) = A 4 0 + 1 := by rw [hx]; exact (nI_1 k).symm
  rw [← e7, e6, e8] at hK
  refine mCall_sem MX1_build rfl rfl (Or.inl ⟨rfl, rfl, rfl⟩) rfl (mSem_wp MX1_build rfl aX1_build 300 [] (fun cl ax hcl hax => ?_))
  refine ⟨hv, ?_⟩
  refine ⟨hv, ?_⟩
  refine ⟨hv, ?_⟩
  refine ⟨hv, ?_⟩
  refine ⟨hv, ?_⟩
  exact hK
theorem w_built {E : ME} {d : Nat} {kd ln ft hd : Int32} {A : Nat → Nat → Int32} {B : Nat → Nat → Int64} {K : MK} {k : Nat} (hk : k < 12) (hx : A 75 3 = nI k) (hK : K (some (.int (nI k))) (SH, va_up A 75 (upd (upd (upd (upd (upd (upd (A 75) (15 + 5 * k) kd) (16 + 5 * k) ln) (17 + 5 * k) ft) (18 + 5 * k) hd) (19 + 5 * k) 0) 3 (nI (k + 1))), B)) : mCall E d nX9_built [.ref 74, .int kd, .int ln, .int ft, .int hd] (SH, A, B) K := by
  have e0 : 15 + 5 * A 75 3 + 0 = nI (15 + 5 * k) := by rw [hx]; exact hIx k 0 _ (by omega)
  have e1 : 15 + 5 * A 75 3 + 1 = nI (16 + 5 * k) := by rw [hx]; exact hIx k 1 _ (by omega)
  have e2 : 15 + 5 * A 75 3 + 2 = nI (17 + 5 * k) := by rw [hx]; exact hIx k 2 _ (by omega)
  have e3 : 15 + 5 * A 75 3 + 3 = nI (18 + 5 * k) := by rw [hx]; exact hIx k 3 _ (by omega)
  have e4 : 15 + 5 * A 75 3 + 4 = nI (19 + 5 * k) := by rw [hx]; exact hIx k 4 _ (by omega)
  have e3' : (3 : Int32).toNatClampNeg = 3 := rfl
  refine mCall_sem MX9_built rfl rfl (Or.inl ⟨rfl, rfl, rfl⟩) rfl (mSem_wp MX9_built rfl aX9_built 300 [] (fun cl ax hcl hax => ?_))
  refine ⟨vl 3 rfl rfl, ?_⟩
  refine ⟨by rw [show (15 + 5 * (SH, A, B).2.1 75 (3 : Int32).toNatClampNeg + 0) = _ from e0]; exact vp_in_nI (N := 135) (by omega) (by decide), ?_⟩
  refine ⟨by rw [show (15 + 5 * (SH, A, B).2.1 75 (3 : Int32).toNatClampNeg + 1) = _ from e1]; exact vp_in_nI (N := 135) (by omega) (by decide), ?_⟩
  refine ⟨by rw [show (15 + 5 * (SH, A, B).2.1 75 (3 : Int32).toNatClampNeg + 2) = _ from e2]; exact vp_in_nI (N := 135) (by omega) (by decide), ?_⟩
  refine ⟨by rw [show (15 + 5 * (SH, A, B).2.1 75 (3 : Int32).toNatClampNeg + 3) = _ from e3]; exact vp_in_nI (N := 135) (by omega) (by decide), ?_⟩
  refine ⟨by rw [show (15 + 5 * (SH, A, B).2.1 75 (3 : Int32).toNatClampNeg + 4) = _ from e4]; exact vp_in_nI (N := 135) (by omega) (by decide), ?_⟩
  refine ⟨vl 3 rfl rfl, ?_⟩
  refine ⟨vl 3 rfl rfl, ?_⟩
  conv => whnf
  simp only [msetA, e3', up_s, bx_uu, e0, e1, e2, e3, e4, nI_clamp (show 15 + 5 * k < 2 ^ 31 by omega), nI_clamp (show 16 + 5 * k < 2 ^ 31 by omega), nI_clamp (show 17 + 5 * k < 2 ^ 31 by omega), nI_clamp (show 18 + 5 * k < 2 ^ 31 by omega), nI_clamp (show 19 + 5 * k < 2 ^ 31 by omega)]
  rw [ud_n (show 3 ≠ 19 + 5 * k by omega), ud_n (show 3 ≠ 18 + 5 * k by omega), ud_n (show 3 ≠ 17 + 5 * k by omega), ud_n (show 3 ≠ 16 + 5 * k by omega), ud_n (show 3 ≠ 15 + 5 * k by omega), hx, nI_1]
  exact hK
theorem rAll_house {A : Nat → Nat → Int32} {B : Nat → Nat → Int64} (h : rAll A B) {k : Nat} (hk : k < 12) (hx : A 4 0 = nI k) (hm : A 75 3 = nI k) {kd ln ft hd : Int32} (q1 : 0 ≤ kd ∧ kd ≤ 5) (q2 : 0 ≤ ln ∧ ln ≤ 8) (q3 : 0 ≤ ft ∧ ft < A 75 0) (q4 : 0 ≤ hd ∧ hd ≤ 99) : rAll (va_up (va_up (va_up (va_up (va_up (va_up (va_up A 5 (upd (A 5) k kd)) 6 (upd (A 6) k ln)) 7 (upd (A 7) k ft)) 8 (upd (A 8) k hd)) 9 (upd (A 9) k 0)) 4 (upd (A 4) 0 (nI (k + 1)))) 75 (upd (upd (upd (upd (upd (upd (A 75) (15 + 5 * k) kd) (16 + 5 * k) ln) (17 + 5 * k) ft) (18 + 5 * k) hd) (19 + 5 * k) 0) 3 (nI (k + 1)))) B := by
  obtain ⟨⟨hi, hh, hd', hs⟩, hk9, hf, ht, hsh⟩ := h
  have n : ∀ q, q ≠ 3 → ¬ (15 + 5 * k ≤ q ∧ q < 20 + 5 * k) → upd (upd (upd (upd (upd (upd (A 75) (15 + 5 * k) kd) (16 + 5 * k) ln) (17 + 5 * k) ft) (18 + 5 * k) hd) (19 + 5 * k) 0) 3 (nI (k + 1)) q = A 75 q := fun q a b => by
    rw [ud_n a, ud_n (by omega), ud_n (by omega), ud_n (by omega), ud_n (by omega), ud_n (by omega)]
  have hedge := hi.2.2.1
  refine ⟨⟨rIce_c hi rfl rfl (fun q hq => n q (by omega) (by omega)), ?_, rDee_c hd' rfl rfl rfl (fun q hq => n q (by omega) (by omega)), rSta_c hs rfl rfl rfl rfl rfl (fun q hq => n q (by omega) (by omega))⟩, hk9, hf, ht, hsh⟩
  · obtain ⟨k', k1, k2, k3, k4⟩ := hh
    have : k' = k := (nI_eq (by omega) (by omega)).mp (k3.symm.trans hm)
    subst this
    refine ⟨k' + 1, by omega, rfl, rfl, fun j hj => ?_⟩
    have n0 := n 0 (by omega) (by omega)
    by_cases hjk : j = k'
    · subst hjk
      have m0 : upd (upd (upd (upd (upd (upd (A 75) (15 + 5 * j) kd) (16 + 5 * j) ln) (17 + 5 * j) ft) (18 + 5 * j) hd) (19 + 5 * j) 0) 3 (nI (j + 1)) (15 + 5 * j) = kd := by
        rw [ud_n (by omega), ud_n (by omega), ud_n (by omega), ud_n (by omega), ud_n (by omega), ud_s]
      have m1 : upd (upd (upd (upd (upd (upd (A 75) (15 + 5 * j) kd) (16 + 5 * j) ln) (17 + 5 * j) ft) (18 + 5 * j) hd) (19 + 5 * j) 0) 3 (nI (j + 1)) (16 + 5 * j) = ln := by
        rw [ud_n (by omega), ud_n (by omega), ud_n (by omega), ud_n (by omega), ud_s]
      have m2 : upd (upd (upd (upd (upd (upd (A 75) (15 + 5 * j) kd) (16 + 5 * j) ln) (17 + 5 * j) ft) (18 + 5 * j) hd) (19 + 5 * j) 0) 3 (nI (j + 1)) (17 + 5 * j) = ft := by
        rw [ud_n (by omega), ud_n (by omega), ud_n (by omega), ud_s]
      have m3 : upd (upd (upd (upd (upd (upd (A 75) (15 + 5 * j) kd) (16 + 5 * j) ln) (17 + 5 * j) ft) (18 + 5 * j) hd) (19 + 5 * j) 0) 3 (nI (j + 1)) (18 + 5 * j) = hd := by
        rw [ud_n (by omega), ud_n (by omega), ud_s]
      have m4 : upd (upd (upd (upd (upd (upd (A 75) (15 + 5 * j) kd) (16 + 5 * j) ln) (17 + 5 * j) ft) (18 + 5 * j) hd) (19 + 5 * j) 0) 3 (nI (j + 1)) (19 + 5 * j) = 0 := by
        rw [ud_n (by omega), ud_s]
      simp only [va_up, Nat.reduceEqDiff, reduceIte, m0, m1, m2, m3, m4, n0, ud_s]
      clear n n0 m0 m1 m2 m3 m4 k4
      grind
    · have k5 := k4 j (by omega)
      have m0 := n (15 + 5 * j) (by omega) (by omega)
      have m1 := n (16 + 5 * j) (by omega) (by omega)
      have m2 := n (17 + 5 * j) (by omega) (by omega)
      have m3 := n (18 + 5 * j) (by omega) (by omega)
      have m4 := n (19 + 5 * j) (by omega) (by omega)
      simp only [va_up, Nat.reduceEqDiff, reduceIte, m0, m1, m2, m3, m4, n0, ud_n hjk]
      exact k5
theorem op_house {E : ME} {kd ln ft : Int32} {A : Nat → Nat → Int32} {B : Nat → Nat → Int64} (h : rAll A B) : rOp E nX8_house nX9_house [.int kd, .int ln, .int ft] A B := by
  obtain ⟨k, k12, kx, km, kh⟩ := rHou_at h.1.2.1
  have hice := h.1.1
  have hed := hice.2.2.1
  refine rOp_of (fun K hK => ?_)
  refine mCall_sem MX8_house rfl rfl (Or.inl ⟨rfl, rfl, rfl⟩) rfl (mSem_wp MX8_house rfl aX8_house 300 [] (fun cl ax hcl hax => ?_))
  refine hcl _ _ _ _ (w_X8_isKind (fun a1 a2 => ?_) (fun a0 => ?_))
  · refine ⟨fun h9 => absurd h9 (by decide), fun _ => ?_⟩
    refine hcl _ _ _ _ (w_X8_isLane (fun b1 b2 => ?_) (fun b0 => ?_))
    · refine ⟨fun h9 => absurd h9 (by decide), fun _ => ?_⟩
      refine hcl _ _ _ _ (w_X8_isOnIce (n := A 75 0) hice.1.1 (fun d1 d2 => ?_) (fun d0 => ?_))
      · refine ⟨fun _ => ?_, fun h9 => absurd h9 (by decide)⟩
        refine ⟨fun c => ?_, fun c => ?_⟩
        · have c : A 4 0 < 12 := c
          rw [kx] at c
          have hk : k < 12 := (nI_ltI (b := 12) (by omega) (by decide)).mp c
          refine hcl _ _ _ _ (w_build4 hk kx ?_)
          refine hK _ _ ?_
          clear hcl hax
          clear cl ax
          refine mCall_k (fun K hK => ?_)
          refine mCall_sem MX9_house rfl rfl (Or.inl ⟨rfl, rfl, rfl⟩) rfl (mSem_wp MX9_house rfl aX9_house 300 [] (fun cl ax hcl hax => ?_))
          first | refine hcl _ _ _ _ (w_X9 (fun c1 c2 => absurd (And.intro c1 c2) (by assumption)) (fun _ => ?_)) | refine hcl _ _ _ _ (w_X9 (fun _ _ => ?_) (fun c0 => absurd (And.intro (by assumption) (by assumption)) c0))
          refine ⟨fun h9 => absurd h9 (by decide), fun _ => ?_⟩
          first | refine hcl _ _ _ _ (w_X9_isLane (fun c1 c2 => absurd (And.intro c1 c2) (by assumption)) (fun _ => ?_)) | refine hcl _ _ _ _ (w_X9_isLane (fun _ _ => ?_) (fun c0 => absurd (And.intro (by assumption) (by assumption)) c0))
          refine ⟨fun h9 => absurd h9 (by decide), fun _ => ?_⟩
          refine ⟨vl 0 rfl rfl, ?_⟩
          refine hcl _ _ _ _ (w_X9 (fun _ _ => ?_) (fun c0 => absurd (And.intro d1 d2) c0))
          refine ⟨fun _ => ?_, fun h9 => absurd h9 (by decide)⟩
          refine ⟨vl 3 rfl rfl, ?_⟩
          refine ⟨fun _ => ?_, fun (c2 : A 75 3 = 12) => ?_⟩
          · refine hcl _ _ _ _ (w_built hk km ?_)
            exact hK _ _ ⟨rfl, rfl, rAll_house h hk kx km ⟨a1, a2⟩ ⟨b1, b2⟩ ⟨d1, by grind⟩ ⟨by decide, by decide⟩⟩
          · exfalso
            rw [km] at c2
            grind
        · have c : ¬ A 4 0 < 12 := c
          rw [kx] at c
          have hk : k = 12 := by
            rcases Nat.lt_or_ge k 12 with q | q
            · exact absurd ((nI_ltI (b := 12) (by omega) (by decide)).mpr q) c
            · omega
          subst hk
          refine hcl _ _ _ _ (w_X8_refuse 1 (by decide) (by decide) ?_)
          refine hK _ _ ?_
          clear hcl hax
          clear cl ax
          refine mCall_k (fun K hK => ?_)
          refine mCall_sem MX9_house rfl rfl (Or.inl ⟨rfl, rfl, rfl⟩) rfl (mSem_wp MX9_house rfl aX9_house 300 [] (fun cl ax hcl hax => ?_))
          first | refine hcl _ _ _ _ (w_X9 (fun c1 c2 => absurd (And.intro c1 c2) (by assumption)) (fun _ => ?_)) | refine hcl _ _ _ _ (w_X9 (fun _ _ => ?_) (fun c0 => absurd (And.intro (by assumption) (by assumption)) c0))
          refine ⟨fun h9 => absurd h9 (by decide), fun _ => ?_⟩
          first | refine hcl _ _ _ _ (w_X9_isLane (fun c1 c2 => absurd (And.intro c1 c2) (by assumption)) (fun _ => ?_)) | refine hcl _ _ _ _ (w_X9_isLane (fun _ _ => ?_) (fun c0 => absurd (And.intro (by assumption) (by assumption)) c0))
          refine ⟨fun h9 => absurd h9 (by decide), fun _ => ?_⟩
          refine ⟨vl 0 rfl rfl, ?_⟩
          refine hcl _ _ _ _ (w_X9 (fun _ _ => ?_) (fun c0 => absurd (And.intro d1 d2) c0))
          refine ⟨fun _ => ?_, fun h9 => absurd h9 (by decide)⟩
          refine ⟨vl 3 rfl rfl, ?_⟩
          refine ⟨fun (c2 : ¬ A 75 3 = 12) => absurd km c2, fun _ => ?_⟩
          exact hcl _ _ _ _ (w_X9_finding 1 (by decide) (by decide) (hK _ _ (rEnd_cnt h (by decide))))
      · refine ⟨fun h9 => absurd h9 (by decide), fun _ => ?_⟩
        refine hcl _ _ _ _ (w_X8_refuse 0 (by decide) (by decide) ?_)
        refine hK _ _ ?_
        clear hcl hax
        clear cl ax
        refine mCall_k (fun K hK => ?_)
        refine mCall_sem MX9_house rfl rfl (Or.inl ⟨rfl, rfl, rfl⟩) rfl (mSem_wp MX9_house rfl aX9_house 300 [] (fun cl ax hcl hax => ?_))
        first | refine hcl _ _ _ _ (w_X9 (fun c1 c2 => absurd (And.intro c1 c2) (by assumption)) (fun _ => ?_)) | refine hcl _ _ _ _ (w_X9 (fun _ _ => ?_) (fun c0 => absurd (And.intro (by assumption) (by assumption)) c0))
        refine ⟨fun h9 => absurd h9 (by decide), fun _ => ?_⟩
        first | refine hcl _ _ _ _ (w_X9_isLane (fun c1 c2 => absurd (And.intro c1 c2) (by assumption)) (fun _ => ?_)) | refine hcl _ _ _ _ (w_X9_isLane (fun _ _ => ?_) (fun c0 => absurd (And.intro (by assumption) (by assumption)) c0))
        refine ⟨fun h9 => absurd h9 (by decide), fun _ => ?_⟩
        refine ⟨vl 0 rfl rfl, ?_⟩
        refine hcl _ _ _ _ (w_X9 (fun c1 c2 => absurd (And.intro c1 c2) d0) (fun _ => ?_))
        refine ⟨fun h9 => absurd h9 (by decide), fun _ => ?_⟩
        exact hcl _ _ _ _ (w_X9_finding 0 (by decide) (by decide) (hK _ _ (rEnd_cnt h (by decide))))
    · refine ⟨fun _ => ?_, fun h9 => absurd h9 (by decide)⟩
      refine hcl _ _ _ _ (w_X8_refuse 0 (by decide) (by decide) ?_)
      refine hK _ _ ?_
      clear hcl hax
      clear cl ax
      refine mCall_k (fun K hK => ?_)
      refine mCall_sem MX9_house rfl rfl (Or.inl ⟨rfl, rfl, rfl⟩) rfl (mSem_wp MX9_house rfl aX9_house 300 [] (fun cl ax hcl hax => ?_))
      repeat (first | exact hcl _ _ _ _ (w_X9_finding 0 (by decide) (by decide) (hK _ _ (rEnd_cnt h (by decide)))) | refine ⟨fun _ => ?_, fun h9 => absurd h9 (by decide)⟩ | refine ⟨fun h9 => absurd h9 (by decide), fun _ => ?_⟩ | (first | refine hcl _ _ _ _ (w_X9 (fun c1 c2 => absurd (And.intro c1 c2) (by assumption)) (fun _ => ?_)) | refine hcl _ _ _ _ (w_X9 (fun _ _ => ?_) (fun c0 => absurd (And.intro (by assumption) (by assumption)) c0))) | (first | refine hcl _ _ _ _ (w_X9_isLane (fun c1 c2 => absurd (And.intro c1 c2) (by assumption)) (fun _ => ?_)) | refine hcl _ _ _ _ (w_X9_isLane (fun _ _ => ?_) (fun c0 => absurd (And.intro (by assumption) (by assumption)) c0))))
  · refine ⟨fun _ => ?_, fun h9 => absurd h9 (by decide)⟩
    refine hcl _ _ _ _ (w_X8_refuse 0 (by decide) (by decide) ?_)
    refine hK _ _ ?_
    clear hcl hax
    clear cl ax
    refine mCall_k (fun K hK => ?_)
    refine mCall_sem MX9_house rfl rfl (Or.inl ⟨rfl, rfl, rfl⟩) rfl (mSem_wp MX9_house rfl aX9_house 300 [] (fun cl ax hcl hax => ?_))
    repeat (first | exact hcl _ _ _ _ (w_X9_finding 0 (by decide) (by decide) (hK _ _ (rEnd_cnt h (by decide)))) | refine ⟨fun _ => ?_, fun h9 => absurd h9 (by decide)⟩ | refine ⟨fun h9 => absurd h9 (by decide), fun _ => ?_⟩ | (first | refine hcl _ _ _ _ (w_X9 (fun c1 c2 => absurd (And.intro c1 c2) (by assumption)) (fun _ => ?_)) | refine hcl _ _ _ _ (w_X9 (fun _ _ => ?_) (fun c0 => absurd (And.intro (by assumption) (by assumption)) c0))) | (first | refine hcl _ _ _ _ (w_X9_isLane (fun c1 c2 => absurd (And.intro c1 c2) (by assumption)) (fun _ => ?_)) | refine hcl _ _ _ _ (w_X9_isLane (fun _ _ => ?_) (fun c0 => absurd (And.intro (by assumption) (by assumption)) c0))))
/-! as -/
def un (a b : Int32) : Prop := b = a ∨ b = 0 ∨ (a = 3 ∧ b = 1) ∨ (a = 4 ∧ b = 2)
theorem w_under {E : ME} {d : Nat} {a b : Int32} {h : MH} {K : MK} (h0 : 0 ≤ a) (h5 : a ≤ 5) (b0 : 0 ≤ b) (b5 : b ≤ 5) (k1 : un a b → K (some (.int 1)) h) (k0 : ¬ un a b → K (some (.int 0)) h) : mCall E (d + 2) nX8_isOrIsUnder [.int a, .int b] h K := by
  obtain ⟨k, hk, rfl⟩ := ix_le 5 h0 h5 rfl
  have yes : un (nI k) b → K (some (.int 1)) h := k1
  have no : ¬ un (nI k) b → K (some (.int 0)) h := k0
  unfold un at yes no
  have u : ∀ (i : Nat), i < 6 → vp_in (nI i) 6 := fun i hi => vp_in_nI hi (by decide)
  rcases (show k = 0 ∨ k = 1 ∨ k = 2 ∨ k = 3 ∨ k = 4 ∨ k = 5 by omega) with rfl | rfl | rfl | rfl | rfl | rfl
  · refine mCall_sem MX8_isOrIsUnder rfl rfl (Or.inl ⟨rfl, rfl, rfl⟩) rfl (mSem_wp MX8_isOrIsUnder rfl aX8_isOrIsUnder 300 [] (fun cl ax hcl hax => ?_))
    refine ⟨fun h9 => absurd h9 (by decide), fun _ => ?_⟩
    refine hcl _ _ _ _ (w_X8_isKind (fun _ _ => ?_) (fun c0 => absurd (by decide) c0))
    refine ⟨fun h9 => absurd h9 (by decide), fun _ => ?_⟩
    refine ⟨fun c => ?_, fun c => ⟨rfl, yes (Or.inl c.symm)⟩⟩
    refine ⟨u 0 (by decide), ?_⟩
    refine ⟨fun h9 => absurd h9 (by decide), fun _ => ?_⟩
    refine hcl _ _ _ _ (w_X8_isKind (fun c _ => absurd c (by decide)) (fun _ => ?_))
    refine ⟨fun _ => ?_, fun h9 => absurd h9 (by decide)⟩
    exact ⟨rfl, no (by rintro (q | q | q | q) <;> first | exact c q.symm | exact absurd q.1 (by decide))⟩
  · refine mCall_sem MX8_isOrIsUnder rfl rfl (Or.inl ⟨rfl, rfl, rfl⟩) rfl (mSem_wp MX8_isOrIsUnder rfl aX8_isOrIsUnder 300 [] (fun cl ax hcl hax => ?_))
    refine ⟨fun h9 => absurd h9 (by decide), fun _ => ?_⟩
    refine hcl _ _ _ _ (w_X8_isKind (fun _ _ => ?_) (fun c0 => absurd (by decide) c0))
    refine ⟨fun h9 => absurd h9 (by decide), fun _ => ?_⟩
    refine ⟨fun c => ?_, fun c => ⟨rfl, yes (Or.inl c.symm)⟩⟩
    refine ⟨u 1 (by decide), ?_⟩
    refine ⟨fun h9 => absurd h9 (by decide), fun _ => ?_⟩
    refine hcl _ _ _ _ (w_X8_isKind (fun _ _ => ?_) (fun c0 => absurd (by decide) c0))
    refine ⟨fun h9 => absurd h9 (by decide), fun _ => ?_⟩
    refine ⟨fun (c2 : ¬ (0 : Int32) = b) => ?_, fun (c2 : (0 : Int32) = b) => ⟨rfl, yes (Or.inr (Or.inl c2.symm))⟩⟩
    refine ⟨u 0 (by decide), ?_⟩
    refine ⟨fun h9 => absurd h9 (by decide), fun _ => ?_⟩
    refine hcl _ _ _ _ (w_X8_isKind (fun c _ => absurd c (by decide)) (fun _ => ?_))
    refine ⟨fun _ => ?_, fun h9 => absurd h9 (by decide)⟩
    exact ⟨rfl, no (by rintro (q | q | q | q) <;> first | exact c q.symm | exact c2 q.symm | exact absurd q.1 (by decide))⟩
  · refine mCall_sem MX8_isOrIsUnder rfl rfl (Or.inl ⟨rfl, rfl, rfl⟩) rfl (mSem_wp MX8_isOrIsUnder rfl aX8_isOrIsUnder 300 [] (fun cl ax hcl hax => ?_))
    refine ⟨fun h9 => absurd h9 (by decide), fun _ => ?_⟩
    refine hcl _ _ _ _ (w_X8_isKind (fun _ _ => ?_) (fun c0 => absurd (by decide) c0))
    refine ⟨fun h9 => absurd h9 (by decide), fun _ => ?_⟩
    refine ⟨fun c => ?_, fun c => ⟨rfl, yes (Or.inl c.symm)⟩⟩
    refine ⟨u 2 (by decide), ?_⟩
    refine ⟨fun h9 => absurd h9 (by decide), fun _ => ?_⟩
    refine hcl _ _ _ _ (w_X8_isKind (fun _ _ => ?_) (fun c0 => absurd (by decide) c0))
    refine ⟨fun h9 => absurd h9 (by decide), fun _ => ?_⟩
    refine ⟨fun (c2 : ¬ (0 : Int32) = b) => ?_, fun (c2 : (0 : Int32) = b) => ⟨rfl, yes (Or.inr (Or.inl c2.symm))⟩⟩
    refine ⟨u 0 (by decide), ?_⟩
    refine ⟨fun h9 => absurd h9 (by decide), fun _ => ?_⟩
    refine hcl _ _ _ _ (w_X8_isKind (fun c _ => absurd c (by decide)) (fun _ => ?_))
    refine ⟨fun _ => ?_, fun h9 => absurd h9 (by decide)⟩
    exact ⟨rfl, no (by rintro (q | q | q | q) <;> first | exact c q.symm | exact c2 q.symm | exact absurd q.1 (by decide))⟩
  · refine mCall_sem MX8_isOrIsUnder rfl rfl (Or.inl ⟨rfl, rfl, rfl⟩) rfl (mSem_wp MX8_isOrIsUnder rfl aX8_isOrIsUnder 300 [] (fun cl ax hcl hax => ?_))
    refine ⟨fun h9 => absurd h9 (by decide), fun _ => ?_⟩
    refine hcl _ _ _ _ (w_X8_isKind (fun _ _ => ?_) (fun c0 => absurd (by decide) c0))
    refine ⟨fun h9 => absurd h9 (by decide), fun _ => ?_⟩
    refine ⟨fun c => ?_, fun c => ⟨rfl, yes (Or.inl c.symm)⟩⟩
    refine ⟨u 3 (by decide), ?_⟩
    refine ⟨fun h9 => absurd h9 (by decide), fun _ => ?_⟩
    refine hcl _ _ _ _ (w_X8_isKind (fun _ _ => ?_) (fun c0 => absurd (by decide) c0))
    refine ⟨fun h9 => absurd h9 (by decide), fun _ => ?_⟩
    refine ⟨fun (c3 : ¬ (1 : Int32) = b) => ?_, fun (c3 : (1 : Int32) = b) => ⟨rfl, yes (Or.inr (Or.inr (Or.inl ⟨rfl, c3.symm⟩)))⟩⟩
    refine ⟨u 1 (by decide), ?_⟩
    refine ⟨fun h9 => absurd h9 (by decide), fun _ => ?_⟩
    refine hcl _ _ _ _ (w_X8_isKind (fun _ _ => ?_) (fun c0 => absurd (by decide) c0))
    refine ⟨fun h9 => absurd h9 (by decide), fun _ => ?_⟩
    refine ⟨fun (c2 : ¬ (0 : Int32) = b) => ?_, fun (c2 : (0 : Int32) = b) => ⟨rfl, yes (Or.inr (Or.inl c2.symm))⟩⟩
    refine ⟨u 0 (by decide), ?_⟩
    refine ⟨fun h9 => absurd h9 (by decide), fun _ => ?_⟩
    refine hcl _ _ _ _ (w_X8_isKind (fun c _ => absurd c (by decide)) (fun _ => ?_))
    refine ⟨fun _ => ?_, fun h9 => absurd h9 (by decide)⟩
    exact ⟨rfl, no (by rintro (q | q | q | q) <;> first | exact c q.symm | exact c2 q.symm | exact c3 q.2.symm | exact absurd q.1 (by decide))⟩
  · refine mCall_sem MX8_isOrIsUnder rfl rfl (Or.inl ⟨rfl, rfl, rfl⟩) rfl (mSem_wp MX8_isOrIsUnder rfl aX8_isOrIsUnder 300 [] (fun cl ax hcl hax => ?_))
    refine ⟨fun h9 => absurd h9 (by decide), fun _ => ?_⟩
    refine hcl _ _ _ _ (w_X8_isKind (fun _ _ => ?_) (fun c0 => absurd (by decide) c0))
    refine ⟨fun h9 => absurd h9 (by decide), fun _ => ?_⟩
    refine ⟨fun c => ?_, fun c => ⟨rfl, yes (Or.inl c.symm)⟩⟩
    refine ⟨u 4 (by decide), ?_⟩
    refine ⟨fun h9 => absurd h9 (by decide), fun _ => ?_⟩
    refine hcl _ _ _ _ (w_X8_isKind (fun _ _ => ?_) (fun c0 => absurd (by decide) c0))
    refine ⟨fun h9 => absurd h9 (by decide), fun _ => ?_⟩
    refine ⟨fun (c3 : ¬ (2 : Int32) = b) => ?_, fun (c3 : (2 : Int32) = b) => ⟨rfl, yes (Or.inr (Or.inr (Or.inr ⟨rfl, c3.symm⟩)))⟩⟩
    refine ⟨u 2 (by decide), ?_⟩
    refine ⟨fun h9 => absurd h9 (by decide), fun _ => ?_⟩
    refine hcl _ _ _ _ (w_X8_isKind (fun _ _ => ?_) (fun c0 => absurd (by decide) c0))
    refine ⟨fun h9 => absurd h9 (by decide), fun _ => ?_⟩
    refine ⟨fun (c2 : ¬ (0 : Int32) = b) => ?_, fun (c2 : (0 : Int32) = b) => ⟨rfl, yes (Or.inr (Or.inl c2.symm))⟩⟩
    refine ⟨u 0 (by decide), ?_⟩
    refine ⟨fun h9 => absurd h9 (by decide), fun _ => ?_⟩
    refine hcl _ _ _ _ (w_X8_isKind (fun c _ => absurd c (by decide)) (fun _ => ?_))
    refine ⟨fun _ => ?_, fun h9 => absurd h9 (by decide)⟩
    exact ⟨rfl, no (by rintro (q | q | q | q) <;> first | exact c q.symm | exact c2 q.symm | exact c3 q.2.symm | exact absurd q.1 (by decide))⟩
  · refine mCall_sem MX8_isOrIsUnder rfl rfl (Or.inl ⟨rfl, rfl, rfl⟩) rfl (mSem_wp MX8_isOrIsUnder rfl aX8_isOrIsUnder 300 [] (fun cl ax hcl hax => ?_))
    refine ⟨fun h9 => absurd h9 (by decide), fun _ => ?_⟩
    refine hcl _ _ _ _ (w_X8_isKind (fun _ _ => ?_) (fun c0 => absurd (by decide) c0))
    refine ⟨fun h9 => absurd h9 (by decide), fun _ => ?_⟩
    refine ⟨fun c => ?_, fun c => ⟨rfl, yes (Or.inl c.symm)⟩⟩
    refine ⟨u 5 (by decide), ?_⟩
    refine ⟨fun h9 => absurd h9 (by decide), fun _ => ?_⟩
    refine hcl _ _ _ _ (w_X8_isKind (fun _ _ => ?_) (fun c0 => absurd (by decide) c0))
    refine ⟨fun h9 => absurd h9 (by decide), fun _ => ?_⟩
    refine ⟨fun (c2 : ¬ (0 : Int32) = b) => ?_, fun (c2 : (0 : Int32) = b) => ⟨rfl, yes (Or.inr (Or.inl c2.symm))⟩⟩
    refine ⟨u 0 (by decide), ?_⟩
    refine ⟨fun h9 => absurd h9 (by decide), fun _ => ?_⟩
    refine hcl _ _ _ _ (w_X8_isKind (fun c _ => absurd c (by decide)) (fun _ => ?_))
    refine ⟨fun _ => ?_, fun h9 => absurd h9 (by decide)⟩
    exact ⟨rfl, no (by rintro (q | q | q | q) <;> first | exact c q.symm | exact c2 q.symm | exact absurd q.1 (by decide))⟩
theorem w_above {E : ME} {d : Nat} {a : Int32} {h : MH} {K : MK} (hK : K (some (.int (if a = 0 then -1 else if a = 3 then 1 else if a = 4 then 2 else 0))) h) : mCall E d nX9_above [.int a] h K := by
  refine mCall_sem MX9_above rfl rfl (Or.inl ⟨rfl, rfl, rfl⟩) rfl (mSem_wp MX9_above rfl aX9_above 300 [] (fun cl ax hcl hax => ?_))
  refine ⟨fun c => ⟨fun c2 => ⟨fun c3 => ?_, fun c3 => ?_⟩, fun c2 => ?_⟩, fun c => ?_⟩
  · rw [if_neg c, if_neg c2, if_neg c3] at hK; exact hK
  · rw [if_neg c, if_neg c2, if_pos c3] at hK; exact hK
  · rw [if_neg c, if_pos c2] at hK; exact hK
  · rw [if_pos c] at hK; exact hK
/-- up the kinds: what is left of the way -/
def ht (a : Int32) : Nat := if a < 0 then 0 else if a = 0 then 1 else if a = 3 ∨ a = 4 then 3 else 2
theorem up_ht {a : Int32} (a0 : ¬ a < 0) (a5 : a ≤ 5) : -1 ≤ (if a = 0 then -1 else if a = 3 then 1 else if a = 4 then 2 else (0 : Int32)) ∧ (if a = 0 then -1 else if a = 3 then 1 else if a = 4 then 2 else (0 : Int32)) ≤ 5 ∧ ht (if a = 0 then -1 else if a = 3 then 1 else if a = 4 then 2 else 0) < ht a := by
  by_cases h0 : a = 0
  · subst h0; decide
  by_cases h3 : a = 3
  · subst h3; decide
  by_cases h4 : a = 4
  · subst h4; decide
  rw [if_neg h0, if_neg h3, if_neg h4]
  refine ⟨by decide, by decide, ?_⟩
  have e : ht a = 2 := by
    unfold ht
    rw [if_neg a0, if_neg h0, if_neg (fun q => q.elim h3 h4)]
  rw [e]
  decide
theorem lp_X9_as {E : ME} {d : Nat} {A : Nat → Nat → Int32} {B : Nat → Nat → Int64} {K : MK} {j : Nat} (hj : j < 12) {b : Int32} (b0 : 0 ≤ b) : ∀ a, (-1 ≤ a ∧ a ≤ 5 ∧ (¬ (0 ≤ a ∧ un a b) → K (some (.int (-1000000003))) (SH, cnt2 A 2, B)) ∧ ((0 ≤ a ∧ un a b) → K (some (.int (A 75 (17 + 5 * j)))) (SH, A, B))) → mSem E (d + 2) nX9_as (SH, A, B) 0 0 K 31 [some (.ref 74), some (.int (nI j)), some (.int b), some (.int a)] [] (SH, A, B) := by
  refine mSem_loop MX9_as rfl aX9_as 300 [31] (fun a => [some (.ref 74), some (.int (nI j)), some (.int b), some (.int a)]) (fun a => (SH, A, B)) (fun a => -1 ≤ a ∧ a ≤ 5 ∧ (¬ (0 ≤ a ∧ un a b) → K (some (.int (-1000000003))) (SH, cnt2 A 2, B)) ∧ ((0 ≤ a ∧ un a b) → K (some (.int (A 75 (17 + 5 * j)))) (SH, A, B))) (fun a => ht a) ?_
  intro a ha cl ax hcl hax hlp
  obtain ⟨a1, a5, ak, ak2⟩ := ha
  refine ⟨fun c => ?_, fun c => ⟨fun c2 => ?_, fun c2 => ?_⟩⟩
  · refine ⟨fun c3 => absurd c3 (by grind), fun _ => ?_⟩
    refine hcl _ _ _ _ (w_X9_finding 2 (by decide) (by decide) ?_)
    exact ak (fun q => by grind)
  · refine ⟨fun _ => ?_, fun c3 => absurd c3 (by grind)⟩
    exact hcl _ _ _ _ (w_houseIs (17 + 5 * j) (by omega) (hIx j 2 _ (by omega)) (ak2 ⟨by grind, Or.inl c2.symm⟩))
  · refine hcl _ _ _ _ (w_above ?_)
    have hu := up_ht c a5
    have hq : (0 ≤ (if a = 0 then -1 else if a = 3 then 1 else if a = 4 then 2 else (0 : Int32)) ∧ un (if a = 0 then -1 else if a = 3 then 1 else if a = 4 then 2 else 0) b) ↔ (0 ≤ a ∧ un a b) := by
      clear hcl hax hlp ak ak2 hu
      unfold un
      by_cases h0 : a = 0
      · subst h0; grind
      by_cases h3 : a = 3
      · subst h3; grind
      by_cases h4 : a = 4
      · subst h4; grind
      rw [if_neg h0, if_neg h3, if_neg h4]
      grind
    have this : ax 31 [some (.ref 74), some (.int (nI j)), some (.int b), some (.int (if a = 0 then -1 else if a = 3 then 1 else if a = 4 then 2 else 0))] [] (SH, A, B) := hlp (if a = 0 then -1 else if a = 3 then 1 else if a = 4 then 2 else 0) ⟨hu.1, hu.2.1, fun q => ak (fun q2 => q (hq.2 q2)), fun q => ak2 (hq.1 q)⟩ hu.2.2
    exact this
theorem op_as {E : ME} {v u : Int32} {A : Nat → Nat → Int32} {B : Nat → Nat → Int64} (h : rAll A B) : rOp E nX8_as nX9_as [.int v, .int u] A B := by
  obtain ⟨k, k12, kx, km, kh⟩ := rHou_at h.1.2.1
  refine rOp_of (fun K hK => ?_)
  refine mCall_sem MX8_as rfl rfl (Or.inl ⟨rfl, rfl, rfl⟩) rfl (mSem_wp MX8_as rfl aX8_as 300 [] (fun cl ax hcl hax => ?_))
  refine hcl _ _ _ _ (w_X8_isHouse kx (fun a1 a2 => ?_) (fun a0 => ?_))
  · refine ⟨fun h9 => absurd h9 (by decide), fun _ => ?_⟩
    refine hcl _ _ _ _ (w_X8_isKind (fun b1 b2 => ?_) (fun b0 => ?_))
    · refine ⟨fun _ => ?_, fun h9 => absurd h9 (by decide)⟩
      obtain ⟨j, hj, rfl⟩ := ho_ix k12 a1 a2
      have kj := kh j hj
      have e8 : (nI j).toNatClampNeg = j := nI_clamp (by omega)
      have hv : vp_in (nI j) 12 := vp_in_nI (by omega) (by decide)
      refine ⟨hv, ?_⟩
      have e5 : (SH, A, B).2.1 5 (nI j).toNatClampNeg = A 75 (15 + 5 * j) := by
        rw [e8]; exact kj.1.1
      rw [e5]
      refine hcl _ _ _ _ (w_under kj.2.1.1 kj.2.1.2 b1 b2 (fun c => ?_) (fun c => ?_))
      · refine ⟨fun _ => ?_, fun h9 => absurd h9 (by decide)⟩
        refine ⟨hv, ?_⟩
        refine hK _ _ ?_
        clear hcl hax
        clear cl ax
        refine mCall_k (fun K hK => ?_)
        refine mCall_sem MX9_as rfl rfl (Or.inl ⟨rfl, rfl, rfl⟩) rfl (mSem_wp MX9_as rfl aX9_as 300 [31] (fun cl ax hcl hax => ?_))
        first | refine hcl _ _ _ _ (w_X9_isHouse (n := nI k) km (fun c1 c2 => absurd (And.intro c1 c2) (by assumption)) (fun _ => ?_)) | refine hcl _ _ _ _ (w_X9_isHouse (n := nI k) km (fun _ _ => ?_) (fun c0 => absurd (And.intro (by assumption) (by assumption)) c0))
        refine ⟨fun h9 => absurd h9 (by decide), fun _ => ?_⟩
        first | refine hcl _ _ _ _ (w_X9 (fun c1 c2 => absurd (And.intro c1 c2) (by assumption)) (fun _ => ?_)) | refine hcl _ _ _ _ (w_X9 (fun _ _ => ?_) (fun c0 => absurd (And.intro (by assumption) (by assumption)) c0))
        refine ⟨fun _ => ?_, fun h9 => absurd h9 (by decide)⟩
        refine hcl _ _ _ _ (w_houseIs (15 + 5 * j) (by omega) (hIx j 0 _ (by omega)) ?_)
        refine hax _ _ _ _ (lp_X9_as (by omega) b1 _ ⟨by grind, kj.2.1.2, fun q => ?_, fun _ => ?_⟩)
        · exact absurd ⟨kj.2.1.1, c⟩ q
        · refine hK _ _ ⟨?_, rfl, h⟩
          show some (Value.int (A 7 (nI j).toNatClampNeg)) = some (Value.int (A 75 (17 + 5 * j)))
          rw [e8]
          grind
      · refine ⟨fun h9 => absurd h9 (by decide), fun _ => ?_⟩
        refine hcl _ _ _ _ (w_X8_refuse 2 (by decide) (by decide) ?_)
        refine hK _ _ ?_
        clear hcl hax
        clear cl ax
        refine mCall_k (fun K hK => ?_)
        refine mCall_sem MX9_as rfl rfl (Or.inl ⟨rfl, rfl, rfl⟩) rfl (mSem_wp MX9_as rfl aX9_as 300 [31] (fun cl ax hcl hax => ?_))
        first | refine hcl _ _ _ _ (w_X9_isHouse (n := nI k) km (fun c1 c2 => absurd (And.intro c1 c2) (by assumption)) (fun _ => ?_)) | refine hcl _ _ _ _ (w_X9_isHouse (n := nI k) km (fun _ _ => ?_) (fun c0 => absurd (And.intro (by assumption) (by assumption)) c0))
        refine ⟨fun h9 => absurd h9 (by decide), fun _ => ?_⟩
        first | refine hcl _ _ _ _ (w_X9 (fun c1 c2 => absurd (And.intro c1 c2) (by assumption)) (fun _ => ?_)) | refine hcl _ _ _ _ (w_X9 (fun _ _ => ?_) (fun c0 => absurd (And.intro (by assumption) (by assumption)) c0))
        refine ⟨fun _ => ?_, fun h9 => absurd h9 (by decide)⟩
        refine hcl _ _ _ _ (w_houseIs (15 + 5 * j) (by omega) (hIx j 0 _ (by omega)) ?_)
        refine hax _ _ _ _ (lp_X9_as (A := cnt1 A 2) (by omega) b1 (A 75 (15 + 5 * j)) ⟨by grind, kj.2.1.2, fun q => ?_, fun q => ?_⟩)
        · exact hK _ _ (rEnd_cnt h (by decide))
        · exact absurd q.2 c
    · refine ⟨fun h9 => absurd h9 (by decide), fun _ => ?_⟩
      refine hcl _ _ _ _ (w_X8_refuse 0 (by decide) (by decide) ?_)
      refine hK _ _ ?_
      clear hcl hax
      clear cl ax
      refine mCall_k (fun K hK => ?_)
      refine mCall_sem MX9_as rfl rfl (Or.inl ⟨rfl, rfl, rfl⟩) rfl (mSem_wp MX9_as rfl aX9_as 300 [] (fun cl ax hcl hax => ?_))
      repeat (first | exact hcl _ _ _ _ (w_X9_finding 0 (by decide) (by decide) (hK _ _ (rEnd_cnt h (by decide)))) | refine ⟨fun _ => ?_, fun h9 => absurd h9 (by decide)⟩ | refine ⟨fun h9 => absurd h9 (by decide), fun _ => ?_⟩ | (first | refine hcl _ _ _ _ (w_X9_isHouse (n := nI k) km (fun c1 c2 => absurd (And.intro c1 c2) (by assumption)) (fun _ => ?_)) | refine hcl _ _ _ _ (w_X9_isHouse (n := nI k) km (fun _ _ => ?_) (fun c0 => absurd (And.intro (by assumption) (by assumption)) c0))) | (first | refine hcl _ _ _ _ (w_X9 (fun c1 c2 => absurd (And.intro c1 c2) (by assumption)) (fun _ => ?_)) | refine hcl _ _ _ _ (w_X9 (fun _ _ => ?_) (fun c0 => absurd (And.intro (by assumption) (by assumption)) c0))))
  · refine ⟨fun _ => ?_, fun h9 => absurd h9 (by decide)⟩
    refine hcl _ _ _ _ (w_X8_refuse 0 (by decide) (by decide) ?_)
    refine hK _ _ ?_
    clear hcl hax
    clear cl ax
    refine mCall_k (fun K hK => ?_)
    refine mCall_sem MX9_as rfl rfl (Or.inl ⟨rfl, rfl, rfl⟩) rfl (mSem_wp MX9_as rfl aX9_as 300 [] (fun cl ax hcl hax => ?_))
    repeat (first | exact hcl _ _ _ _ (w_X9_finding 0 (by decide) (by decide) (hK _ _ (rEnd_cnt h (by decide)))) | refine ⟨fun _ => ?_, fun h9 => absurd h9 (by decide)⟩ | refine ⟨fun h9 => absurd h9 (by decide), fun _ => ?_⟩ | (first | refine hcl _ _ _ _ (w_X9_isHouse (n := nI k) km (fun c1 c2 => absurd (And.intro c1 c2) (by assumption)) (fun _ => ?_)) | refine hcl _ _ _ _ (w_X9_isHouse (n := nI k) km (fun _ _ => ?_) (fun c0 => absurd (And.intro (by assumption) (by assumption)) c0))) | (first | refine hcl _ _ _ _ (w_X9 (fun c1 c2 => absurd (And.intro c1 c2) (by assumption)) (fun _ => ?_)) | refine hcl _ _ _ _ (w_X9 (fun _ _ => ?_) (fun c0 => absurd (And.intro (by assumption) (by assumption)) c0))))
/-! edge -/
theorem lp_anyAt {E : ME} {d : Nat} {A : Nat → Nat → Int32} {B : Nat → Nat → Int64} {K : MK} {k : Nat} {v : Int32} (hk : k ≤ 12) (hx : A 4 0 = nI k) (k1 : (∃ i, i < k ∧ A 9 i = 0 ∧ v ≤ A 7 i) → K (some (.int 1)) (SH, A, B)) (k0 : (¬ ∃ i, i < k ∧ A 9 i = 0 ∧ v ≤ A 7 i) → K (some (.int 0)) (SH, A, B)) : ∀ j, (j ≤ k ∧ ∀ i, i < j → ¬ (A 9 i = 0 ∧ v ≤ A 7 i)) → mSem E d nX1_anyAtOrPast (SH, A, B) 0 0 K 2 [some (.ref 4), some (.int v), some (.int (nI j))] [] (SH, A, B) := by
  refine mSem_loop MX1_anyAtOrPast rfl aX1_anyAtOrPast 300 [2] (fun j => [some (.ref 4), some (.int v), some (.int (nI j))]) (fun j => (SH, A, B)) (fun j => j ≤ k ∧ ∀ i, i < j → ¬ (A 9 i = 0 ∧ v ≤ A 7 i)) (fun j => k - j) ?_
  intro j hj cl ax hcl hax hlp
  obtain ⟨hj, hn⟩ := hj
  have e8 : (nI j).toNatClampNeg = j := nI_clamp (by omega)
  refine ⟨fun c => ?_, fun c => ?_⟩
  · have c : A 4 0 ≤ nI j := c
    rw [hx, nI_leI (by omega) (by omega)] at c
    have : j = k := by omega
    subst this
    exact ⟨rfl, k0 (fun ⟨i, i1, i2⟩ => hn i i1 i2)⟩
  · have c : ¬ A 4 0 ≤ nI j := c
    rw [hx, nI_leI (by omega) (by omega)] at c
    refine ⟨vp_in_nI (N := 12) (by omega) (by decide), ?_⟩
    have this : ¬ (A 9 j = 0 ∧ v ≤ A 7 j) → ax 2 [some (.ref 4), some (.int v), some (.int (nI (j + 1)))] [] (SH, A, B) := fun q => hlp (j + 1) ⟨by omega, fun i hi => by
      by_cases e : i = j
      · subst e; exact q
      · exact hn i (by omega)⟩ (by omega)
    rw [← nI_1] at this
    refine ⟨fun c2 => ?_, fun c2 => ?_⟩
    · have c2 : ¬ A 9 (nI j).toNatClampNeg = 0 := c2
      rw [e8] at c2
      exact this (fun q => c2 q.1)
    · have c2 : A 9 (nI j).toNatClampNeg = 0 := c2
      rw [e8] at c2
      refine ⟨vp_in_nI (N := 12) (by omega) (by decide), ?_⟩
      refine ⟨fun c3 => ?_, fun c3 => ?_⟩
      · have c3 : A 7 (nI j).toNatClampNeg < v := c3
        rw [e8] at c3
        exact this (fun q => by grind)
      · have c3 : ¬ A 7 (nI j).toNatClampNeg < v := c3
        rw [e8] at c3
        exact ⟨rfl, k1 ⟨j, by omega, c2, by grind⟩⟩
theorem w_anyAt {E : ME} {d : Nat} {A : Nat → Nat → Int32} {B : Nat → Nat → Int64} {K : MK} {k : Nat} {v : Int32} (hk : k ≤ 12) (hx : A 4 0 = nI k) (k1 : (∃ i, i < k ∧ A 9 i = 0 ∧ v ≤ A 7 i) → K (some (.int 1)) (SH, A, B)) (k0 : (¬ ∃ i, i < k ∧ A 9 i = 0 ∧ v ≤ A 7 i) → K (some (.int 0)) (SH, A, B)) : mCall E d nX1_anyAtOrPast [.ref 4, .int v] (SH, A, B) K := by
  refine mCall_sem MX1_anyAtOrPast rfl rfl (Or.inl ⟨rfl, rfl, rfl⟩) rfl (mSem_wp MX1_anyAtOrPast rfl aX1_anyAtOrPast 300 [2] (fun cl ax hcl hax => ?_))
  exact hax _ _ _ _ (lp_anyAt hk hx k1 k0 0 ⟨by omega, fun i hi => by omega⟩)
def fa (N : Nat → Int32) : Nat → Int32
  | 0 => -1
  | j + 1 => if N (19 + 5 * j) = 1 then fa N j else mx (fa N j) (N (17 + 5 * j))
theorem fa_le {N : Nat → Int32} {v : Int32} (v0 : 0 ≤ v) : ∀ k, v ≤ fa N k ↔ ∃ i, i < k ∧ ¬ N (19 + 5 * i) = 1 ∧ v ≤ N (17 + 5 * i)
  | 0 => by
    unfold fa
    refine ⟨fun q => by grind, fun ⟨i, i1, _⟩ => by omega⟩
  | k + 1 => by
    have ih := fa_le v0 k (N := N)
    unfold fa
    by_cases c : N (19 + 5 * k) = 1
    · rw [if_pos c, ih]
      refine ⟨fun ⟨i, i1, i2⟩ => ⟨i, by omega, i2⟩, fun ⟨i, i1, i2⟩ => ⟨i, ?_, i2⟩⟩
      rcases (show i < k ∨ i = k by omega) with q | q
      · exact q
      · subst q; exact absurd c i2.1
    · rw [if_neg c]
      have : v ≤ mx (fa N k) (N (17 + 5 * k)) ↔ v ≤ fa N k ∨ v ≤ N (17 + 5 * k) := by unfold mx; grind
      rw [this, ih]
      refine ⟨?_, fun ⟨i, i1, i2⟩ => ?_⟩
      · rintro (⟨i, i1, i2⟩ | q)
        · exact ⟨i, by omega, i2⟩
        · exact ⟨k, by omega, c, q⟩
      · rcases (show i < k ∨ i = k by omega) with q | q
        · exact Or.inl ⟨i, q, i2⟩
        · subst q; exact Or.inr i2.2
theorem lp_far {E : ME} {d : Nat} {A : Nat → Nat → Int32} {B : Nat → Nat → Int64} {K : MK} {k : Nat} (hk : k ≤ 12) (hx : A 75 3 = nI k) (hK : K (some (.int (fa (A 75) k))) (SH, A, B)) : ∀ j, j ≤ k → mSem E (d + 2) nX9_farthest (SH, A, B) 0 0 K 4 [some (.ref 74), some (.int (fa (A 75) j)), some (.int (nI j))] [] (SH, A, B) := by
  refine mSem_loop MX9_farthest rfl aX9_farthest 300 [4] (fun j => [some (.ref 74), some (.int (fa (A 75) j)), some (.int (nI j))]) (fun j => (SH, A, B)) (fun j => j ≤ k) (fun j => k - j) ?_
  intro j hj cl ax hcl hax hlp
  refine ⟨vl 3 rfl rfl, ?_⟩
  refine ⟨fun c => ?_, fun c => ?_⟩
  · have c : A 75 3 ≤ nI j := c
    rw [hx, nI_leI (by omega) (by omega)] at c
    have : j = k := by omega
    subst this
    exact hK
  · have c : ¬ A 75 3 ≤ nI j := c
    rw [hx, nI_leI (by omega) (by omega)] at c
    have this : ax 4 [some (.ref 74), some (.int (fa (A 75) (j + 1))), some (.int (nI (j + 1)))] [] (SH, A, B) := hlp (j + 1) (by omega) (by omega)
    rw [← nI_1] at this
    unfold fa at this
    refine hcl _ _ _ _ (w_isGone j (by omega) (fun c2 => ?_) (fun c2 => ?_))
    · refine ⟨fun h9 => absurd h9 (by decide), fun _ => ?_⟩
      rw [if_pos c2] at this
      exact this
    · refine ⟨fun _ => ?_, fun h9 => absurd h9 (by decide)⟩
      rw [if_neg c2] at this
      refine hcl _ _ _ _ (w_houseIs (17 + 5 * j) (by omega) (hIx j 2 _ (by omega)) ?_)
      exact this
theorem w_far {E : ME} {d : Nat} {A : Nat → Nat → Int32} {B : Nat → Nat → Int64} {K : MK} {k : Nat} (hk : k ≤ 12) (hx : A 75 3 = nI k) (hK : K (some (.int (fa (A 75) k))) (SH, A, B)) : mCall E (d + 2) nX9_farthest [.ref 74] (SH, A, B) K := by
  refine mCall_sem MX9_farthest rfl rfl (Or.inl ⟨rfl, rfl, rfl⟩) rfl (mSem_wp MX9_farthest rfl aX9_farthest 300 [4] (fun cl ax hcl hax => ?_))
  exact hax _ _ _ _ (lp_far hk hx hK 0 (by omega))
theorem rAll_edge {A : Nat → Nat → Int32} {B : Nat → Nat → Int64} (h : rAll A B) {v : Int32} (h0 : 100 ≤ v) (h1 : v ≤ 9999) {k : Nat} (hk : A 75 3 = nI k) (hk2 : k ≤ 12) (hv : ¬ ∃ i, i < k ∧ ¬ A 75 (19 + 5 * i) = 1 ∧ v ≤ A 75 (17 + 5 * i)) : rAll (va_up (va_up A 2 (upd (A 2) 0 v)) 75 (upd (A 75) 0 v)) B := by
  obtain ⟨⟨hi, hh, hd, hs⟩, hk9, hf, ht, hsh⟩ := h
  have n : ∀ q, 0 < q → upd (A 75) 0 v q = A 75 q := fun q hq => ud_n (by omega)
  refine ⟨⟨?_, ?_, rDee_c hd rfl rfl rfl (fun q hq => n q (by omega)), rSta_c hs rfl rfl rfl rfl rfl (fun q hq => n q (by omega))⟩, hk9, hf, ht, hsh⟩
  · obtain ⟨⟨e1, e2, e3⟩, e4, e5, e6, e7, e8⟩ := hi
    refine ⟨⟨rfl, ?_, ?_⟩, fun j hj => ?_, ⟨h0, h1⟩, e6, e7, fun j hj => ?_⟩
    · exact e2
    · exact e3
    · show A 3 j = upd (A 75) 0 v (6 + j)
      rw [n _ (by omega)]; exact e4 j hj
    · show 0 ≤ upd (A 75) 0 v (6 + j) ∧ upd (A 75) 0 v (6 + j) ≤ 60
      rw [n _ (by omega)]; exact e8 j hj
  · obtain ⟨k', k1, k2, k3, k4⟩ := hh
    refine ⟨k', k1, k2, k3, fun j hj => ?_⟩
    show (A 5 j = upd (A 75) 0 v (15 + 5 * j) ∧ A 6 j = upd (A 75) 0 v (16 + 5 * j) ∧ A 7 j = upd (A 75) 0 v (17 + 5 * j) ∧ A 8 j = upd (A 75) 0 v (18 + 5 * j) ∧ A 9 j = upd (A 75) 0 v (19 + 5 * j)) ∧ (0 ≤ upd (A 75) 0 v (15 + 5 * j) ∧ upd (A 75) 0 v (15 + 5 * j) ≤ 5) ∧ (0 ≤ upd (A 75) 0 v (16 + 5 * j) ∧ upd (A 75) 0 v (16 + 5 * j) ≤ 8) ∧ (0 ≤ upd (A 75) 0 v (17 + 5 * j) ∧ upd (A 75) 0 v (17 + 5 * j) ≤ 9999) ∧ (0 ≤ upd (A 75) 0 v (18 + 5 * j) ∧ upd (A 75) 0 v (18 + 5 * j) ≤ 99) ∧ ((upd (A 75) 0 v (19 + 5 * j) = 0 ∧ upd (A 75) 0 v (17 + 5 * j) < v) ∨ upd (A 75) 0 v (19 + 5 * j) = 1)
    rw [n _ (by omega), n _ (by omega), n _ (by omega), n _ (by omega), n _ (by omega)]
    have q := k4 j hj
    refine ⟨q.1, q.2.1, q.2.2.1, q.2.2.2.1, q.2.2.2.2.1, ?_⟩
    rcases q.2.2.2.2.2 with ⟨q1, q2⟩ | q1
    · left
      refine ⟨q1, ?_⟩
      have : k' = k := by
        have := k3.symm.trans hk
        have e1 := nI_clamp (n := k') (by omega)
        have e2 := nI_clamp (n := k) (by omega)
        rw [this, e2] at e1
        omega
      subst this
      have := fun q => hv ⟨j, hj, (by rw [q1]; decide), q⟩
      grind
    · right; exact q1
theorem op_edge {E : ME} {v : Int32} {A : Nat → Nat → Int32} {B : Nat → Nat → Int64} (h : rAll A B) : rOp E nX8_edge nX9_edge [.int v] A B := by
  obtain ⟨k, k12, kx, km, kh⟩ := rHou_at h.1.2.1
  have hice := h.1.1
  have hiff : (∃ i, i < k ∧ A 9 i = 0 ∧ v ≤ A 7 i) ↔ (∃ i, i < k ∧ ¬ A 75 (19 + 5 * i) = 1 ∧ v ≤ A 75 (17 + 5 * i)) := by
    refine ⟨fun ⟨i, i1, i2⟩ => ⟨i, i1, ?_⟩, fun ⟨i, i1, i2⟩ => ⟨i, i1, ?_⟩⟩ <;> (have := kh i i1; grind)
  refine rOp_of (fun K hK => ?_)
  refine mCall_sem MX8_edge rfl rfl (Or.inl ⟨rfl, rfl, rfl⟩) rfl (mSem_wp MX8_edge rfl aX8_edge 300 [] (fun cl ax hcl hax => ?_))
  refine hcl _ _ _ _ (w_X8 (fun b1 b2 => ?_) (fun b0 => ?_))
  · refine ⟨fun _ => ?_, fun h9 => absurd h9 (by decide)⟩
    refine hcl _ _ _ _ (w_anyAt k12 kx (fun c => ?_) (fun c => ?_))
    · refine ⟨fun h9 => absurd h9 (by decide), fun _ => ?_⟩
      refine hcl _ _ _ _ (w_X8_refuse 4 (by decide) (by decide) ?_)
      refine hK _ _ ?_
      clear hcl hax
      clear cl ax
      refine mCall_k (fun K hK => ?_)
      refine mCall_sem MX9_edge rfl rfl (Or.inl ⟨rfl, rfl, rfl⟩) rfl (mSem_wp MX9_edge rfl aX9_edge 300 [] (fun cl ax hcl hax => ?_))
      first | refine hcl _ _ _ _ (w_X9 (fun c1 c2 => absurd (And.intro c1 c2) (by assumption)) (fun _ => ?_)) | refine hcl _ _ _ _ (w_X9 (fun _ _ => ?_) (fun c0 => absurd (And.intro (by assumption) (by assumption)) c0))
      refine ⟨fun _ => ?_, fun h9 => absurd h9 (by decide)⟩
      refine hcl _ _ _ _ (w_far k12 km ?_)
      refine ⟨fun c2 => ?_, fun _ => ?_⟩
      · have c2 : fa (A 75) k < v := c2
        have := (fa_le (by grind) k).mpr (hiff.mp c)
        exfalso
        grind
      exact hcl _ _ _ _ (w_X9_finding 4 (by decide) (by decide) (hK _ _ (rEnd_cnt h (by decide))))
    · refine ⟨fun _ => ?_, fun h9 => absurd h9 (by decide)⟩
      refine hK _ _ ?_
      clear hcl hax
      clear cl ax
      refine mCall_k (fun K hK => ?_)
      refine mCall_sem MX9_edge rfl rfl (Or.inl ⟨rfl, rfl, rfl⟩) rfl (mSem_wp MX9_edge rfl aX9_edge 300 [] (fun cl ax hcl hax => ?_))
      first | refine hcl _ _ _ _ (w_X9 (fun c1 c2 => absurd (And.intro c1 c2) (by assumption)) (fun _ => ?_)) | refine hcl _ _ _ _ (w_X9 (fun _ _ => ?_) (fun c0 => absurd (And.intro (by assumption) (by assumption)) c0))
      refine ⟨fun _ => ?_, fun h9 => absurd h9 (by decide)⟩
      refine hcl _ _ _ _ (w_far k12 km ?_)
      refine ⟨fun _ => ?_, fun c2 => ?_⟩
      · refine hcl _ _ _ _ (w_become 0 (by omega) rfl ?_)
        refine hK _ _ ⟨?_, rfl, rAll_edge h b1 b2 km k12 (fun q => c (hiff.mpr q))⟩
        show some (Value.int (A 2 0)) = some (Value.int (A 75 0))
        rw [hice.1.1]
      · have c2 : ¬ fa (A 75) k < v := c2
        have c3 : v ≤ fa (A 75) k := by clear hcl hax hK hiff kh c; grind
        have := (fa_le (v := v) (by grind) k).mp c3
        exact absurd (hiff.mpr this) c
  · refine ⟨fun h9 => absurd h9 (by decide), fun _ => ?_⟩
    refine hcl _ _ _ _ (w_X8_refuse 0 (by decide) (by decide) ?_)
    refine hK _ _ ?_
    clear hcl hax
    clear cl ax
    refine mCall_k (fun K hK => ?_)
    refine mCall_sem MX9_edge rfl rfl (Or.inl ⟨rfl, rfl, rfl⟩) rfl (mSem_wp MX9_edge rfl aX9_edge 300 [] (fun cl ax hcl hax => ?_))
    repeat (first | exact hcl _ _ _ _ (w_X9_finding 0 (by decide) (by decide) (hK _ _ (rEnd_cnt h (by decide)))) | refine ⟨fun _ => ?_, fun h9 => absurd h9 (by decide)⟩ | refine ⟨fun h9 => absurd h9 (by decide), fun _ => ?_⟩ | (first | refine hcl _ _ _ _ (w_X9 (fun c1 c2 => absurd (And.intro c1 c2) (by assumption)) (fun _ => ?_)) | refine hcl _ _ _ _ (w_X9 (fun _ _ => ?_) (fun c0 => absurd (And.intro (by assumption) (by assumption)) c0))))
