/-! X: the next token -/
theorem lp_nt1 {E : ME} {d : Nat} {A A0 : Nat → Nat → Int32} {B : Nat → Nat → Int64} {K : MK} {c : Nat → Int32} {k e : Nat} (hk : k ≤ 120) (hc : ∀ j, j < k → A 63 j = c j) (out : ∀ F, F 0 = nI k → F 4 = nI (tb c k e) → mSem E (d + 1) nX6_nextToken (SH, A0, B) 0 0 K 46 [some (.ref 45)] [] (SH, va_up A 45 F, B)) : ∀ p : Nat × (Nat → Int32), (p.1 ≤ k ∧ rU isB c k p.1 = tb c k e ∧ p.2 0 = nI k ∧ p.2 4 = nI p.1) → mSem E (d + 1) nX6_nextToken (SH, A0, B) 0 0 K 8 [some (.ref 45)] [] (SH, va_up A 45 p.2, B) := by
  refine mSem_loop (σ := Nat × (Nat → Int32)) (h0 := (SH, A0, B)) MX6_nextToken rfl aX6_nextToken 300 [8, 46] (fun p => [some (.ref 45)]) (fun p => (SH, va_up A 45 p.2, B)) (fun p => p.1 ≤ k ∧ rU isB c k p.1 = tb c k e ∧ p.2 0 = nI k ∧ p.2 4 = nI p.1) (fun p => k - p.1) ?_
  rintro ⟨j, F⟩ ⟨hj, h1, h2, h3⟩ cl ax hcl hax hlp
  have hj : j ≤ k := hj
  have h1 : rU isB c k j = tb c k e := h1
  have h2 : F 0 = nI k := h2
  have h3 : F 4 = nI j := h3
  have e8 : (F 4).toNatClampNeg = j := by rw [h3]; exact nI_clamp (by omega)
  refine ⟨fun (c0 : F 0 ≤ F 4) => ?_, fun (c0 : ¬ F 0 ≤ F 4) => ?_⟩
  · rw [h2, h3, nI_leI (by omega) (by omega)] at c0
    refine hax _ _ _ _ (out F h2 ?_)
    rw [h3, ← h1, rU_f (fun q => by omega)]
  · rw [h2, h3, nI_leI (by omega) (by omega)] at c0
    refine ⟨show vp_in (F 4) 120 by rw [h3]; exact vp_in_nI (by omega) (by decide), ?_⟩
    refine ⟨fun (c1 : ¬ A 63 (F 4).toNatClampNeg = 32) => ?_, fun (c1 : A 63 (F 4).toNatClampNeg = 32) => ?_⟩
    · rw [e8, hc j (by omega)] at c1
      refine hax _ _ _ _ (out F h2 ?_)
      rw [h3, ← h1, rU_f (fun q => c1 (isB_t.mp q.2))]
    · rw [e8, hc j (by omega)] at c1
      have this : ax 8 [some (.ref 45)] [] (SH, va_up A 45 (upd F 4 (F 4 + 1)), B) := by
        refine hlp (j + 1, upd F 4 (F 4 + 1)) ⟨by show j + 1 ≤ k; omega, ?_, ?_, ?_⟩ (by show k - (j + 1) < k - j; omega)
        · show rU isB c k (j + 1) = _
          rw [← h1, rU_t (by omega) (isB_t.mpr c1)]
        · exact h2
        · show F 4 + 1 = nI (j + 1)
          rw [h3, nI_1]
      rw [← up_up (F := F)] at this
      exact this
theorem lp_nt2 {E : ME} {d : Nat} {A A0 : Nat → Nat → Int32} {B : Nat → Nat → Int64} {K : MK} {c : Nat → Int32} {k b : Nat} (hk : k ≤ 120) (hb : b ≤ k) (hc : ∀ j, j < k → A 63 j = c j) (out : ∀ F, F 0 = nI k → F 4 = nI b → F 5 = nI (rU isL c k b) → mSem E (d + 1) nX6_nextToken (SH, A0, B) 0 0 K 93 [some (.ref 45)] [] (SH, va_up A 45 F, B)) : ∀ p : Nat × (Nat → Int32), (p.1 ≤ k ∧ rU isL c k p.1 = rU isL c k b ∧ p.2 0 = nI k ∧ p.2 4 = nI b ∧ p.2 5 = nI p.1) → mSem E (d + 1) nX6_nextToken (SH, A0, B) 0 0 K 54 [some (.ref 45)] [] (SH, va_up A 45 p.2, B) := by
  refine mSem_loop (σ := Nat × (Nat → Int32)) (h0 := (SH, A0, B)) MX6_nextToken rfl aX6_nextToken 300 [54, 93] (fun p => [some (.ref 45)]) (fun p => (SH, va_up A 45 p.2, B)) (fun p => p.1 ≤ k ∧ rU isL c k p.1 = rU isL c k b ∧ p.2 0 = nI k ∧ p.2 4 = nI b ∧ p.2 5 = nI p.1) (fun p => k - p.1) ?_
  rintro ⟨j, F⟩ ⟨hj, h1, h2, h3, h4⟩ cl ax hcl hax hlp
  have hj : j ≤ k := hj
  have h1 : rU isL c k j = rU isL c k b := h1
  have h2 : F 0 = nI k := h2
  have h3 : F 4 = nI b := h3
  have h4 : F 5 = nI j := h4
  have e8 : (F 5).toNatClampNeg = j := by rw [h4]; exact nI_clamp (by omega)
  refine ⟨fun (c0 : F 0 ≤ F 5) => ?_, fun (c0 : ¬ F 0 ≤ F 5) => ?_⟩
  · rw [h2, h4, nI_leI (by omega) (by omega)] at c0
    refine hax _ _ _ _ (out F h2 h3 ?_)
    rw [h4, ← h1, rU_f (fun q => by omega)]
  · rw [h2, h4, nI_leI (by omega) (by omega)] at c0
    refine ⟨show vp_in (F 5) 120 by rw [h4]; exact vp_in_nI (by omega) (by decide), ?_⟩
    have ec : A 63 (F 5).toNatClampNeg = c j := by rw [e8]; exact hc j (by omega)
    refine hcl _ _ _ _ (w_isLetter (x := A 63 (F 5).toNatClampNeg) (fun c1 => ?_) (fun c1 => ?_))
    · rw [ec] at c1
      refine ⟨fun h9 => absurd h9 (by decide), fun _ => ?_⟩
      have this : ax 54 [some (.ref 45)] [] (SH, va_up A 45 (upd F 5 (F 5 + 1)), B) := by
        refine hlp (j + 1, upd F 5 (F 5 + 1)) ⟨by show j + 1 ≤ k; omega, ?_, ?_, ?_, ?_⟩ (by show k - (j + 1) < k - j; omega)
        · show rU isL c k (j + 1) = _
          rw [← h1, rU_t (by omega) c1]
        · exact h2
        · exact h3
        · show F 5 + 1 = nI (j + 1)
          rw [h4, nI_1]
      rw [← up_up (F := F)] at this
      exact this
    · rw [ec] at c1
      refine ⟨fun _ => ?_, fun h9 => absurd h9 (by decide)⟩
      refine hax _ _ _ _ (out F h2 h3 ?_)
      rw [h4, ← h1, rU_f (fun q => c1 q.2)]
theorem lp_nt3 {E : ME} {d : Nat} {A A0 : Nat → Nat → Int32} {B : Nat → Nat → Int64} {K : MK} {c : Nat → Int32} {k b : Nat} (hk : k ≤ 120) (hb : b ≤ k) (hc : ∀ j, j < k → A 63 j = c j) (out : ∀ F, F 0 = nI k → F 4 = nI b → F 5 = nI (rU isD c k b) → F 6 = vU c k b 0 → mSem E (d + 1) nX6_nextToken (SH, A0, B) 0 0 K 184 [some (.ref 45)] [] (SH, va_up A 45 F, B)) : ∀ p : Nat × (Nat → Int32), (p.1 ≤ k ∧ rU isD c k p.1 = rU isD c k b ∧ p.2 0 = nI k ∧ p.2 4 = nI b ∧ p.2 5 = nI p.1 ∧ vU c k p.1 (p.2 6) = vU c k b 0) → mSem E (d + 1) nX6_nextToken (SH, A0, B) 0 0 K 115 [some (.ref 45)] [] (SH, va_up A 45 p.2, B) := by
  refine mSem_loop (σ := Nat × (Nat → Int32)) (h0 := (SH, A0, B)) MX6_nextToken rfl aX6_nextToken 300 [115, 184] (fun p => [some (.ref 45)]) (fun p => (SH, va_up A 45 p.2, B)) (fun p => p.1 ≤ k ∧ rU isD c k p.1 = rU isD c k b ∧ p.2 0 = nI k ∧ p.2 4 = nI b ∧ p.2 5 = nI p.1 ∧ vU c k p.1 (p.2 6) = vU c k b 0) (fun p => k - p.1) ?_
  rintro ⟨j, F⟩ ⟨hj, h1, h2, h3, h4, h5⟩ cl ax hcl hax hlp
  have hj : j ≤ k := hj
  have h1 : rU isD c k j = rU isD c k b := h1
  have h2 : F 0 = nI k := h2
  have h3 : F 4 = nI b := h3
  have h4 : F 5 = nI j := h4
  have h5 : vU c k j (F 6) = vU c k b 0 := h5
  have e8 : (F 5).toNatClampNeg = j := by rw [h4]; exact nI_clamp (by omega)
  refine ⟨fun (c0 : F 0 ≤ F 5) => ?_, fun (c0 : ¬ F 0 ≤ F 5) => ?_⟩
  · rw [h2, h4, nI_leI (by omega) (by omega)] at c0
    refine hax _ _ _ _ (out F h2 h3 ?_ ?_)
    · rw [h4, ← h1, rU_f (fun q => by omega)]
    · rw [← h5, vU_f (fun q => by omega)]
  · rw [h2, h4, nI_leI (by omega) (by omega)] at c0
    have hv : vp_in (F 5) 120 := by rw [h4]; exact vp_in_nI (by omega) (by decide)
    refine ⟨hv, ?_⟩
    have ec : A 63 (F 5).toNatClampNeg = c j := by rw [e8]; exact hc j (by omega)
    refine hcl _ _ _ _ (w_isDigit (x := A 63 (F 5).toNatClampNeg) (fun c1 => ?_) (fun c1 => ?_))
    · rw [ec] at c1
      refine ⟨fun h9 => absurd h9 (by decide), fun _ => ?_⟩
      refine ⟨hv, ?_⟩
      have this : ax 115 [some (.ref 45)] [] (SH, va_up A 45 (upd (upd F 6 (mn (F 6 * 10 + A 63 (F 5).toNatClampNeg - 48) 10000)) 5 (F 5 + 1)), B) := by
        refine hlp (j + 1, upd (upd F 6 (mn (F 6 * 10 + A 63 (F 5).toNatClampNeg - 48) 10000)) 5 (F 5 + 1)) ⟨by show j + 1 ≤ k; omega, ?_, ?_, ?_, ?_, ?_⟩ (by show k - (j + 1) < k - j; omega)
        · show rU isD c k (j + 1) = _
          rw [← h1, rU_t (by omega) c1]
        · exact h2
        · exact h3
        · show F 5 + 1 = nI (j + 1)
          rw [h4, nI_1]
        · show vU c k (j + 1) (mn (F 6 * 10 + A 63 (F 5).toNatClampNeg - 48) 10000) = vU c k b 0
          rw [← h5, vU_t (by omega) c1, ec]
          rfl
      rw [← up3 F (upd F 6 (mn (F 6 * 10 + A 63 (F 5).toNatClampNeg - 48) 10000))] at this
      exact this
    · rw [ec] at c1
      refine ⟨fun _ => ?_, fun h9 => absurd h9 (by decide)⟩
      refine hax _ _ _ _ (out F h2 h3 ?_ ?_)
      · rw [h4, ← h1, rU_f (fun q => c1 q.2)]
      · rw [← h5, vU_f (fun q => c1 q.2)]
theorem nt184 {E : ME} {d : Nat} {A A0 : Nat → Nat → Int32} {B : Nat → Nat → Int64} {K : MK} {c : Nat → Int32} {k e : Nat} (hk : k ≤ 120) (he : e ≤ k) (hc : ∀ j, j < k → A 63 j = c j) (nl : ¬ (tb c k e < k ∧ isL (c (tb c k e)) = true)) (hK : ∀ F, TX c k F e → K none (SH, va_up A 45 F, B)) {F : Nat → Int32} (h0 : F 0 = nI k) (h4 : F 4 = nI (tb c k e)) (h5 : F 5 = nI (rU isD c k (tb c k e))) (h6 : F 6 = vU c k (tb c k e) 0) : mSem E (d + 1) nX6_nextToken (SH, A0, B) 0 0 K 184 [some (.ref 45)] [] (SH, va_up A 45 F, B) := by
  have hb : tb c k e ≤ k := rU_le he
  have hd : rU isD c k (tb c k e) ≤ k := rU_le hb
  have hge := rU_ge isD c k (tb c k e)
  have e4 : (F 4).toNatClampNeg = tb c k e := by rw [h4]; exact nI_clamp (by omega)
  refine mSem_wp MX6_nextToken rfl aX6_nextToken 300 [] (fun cl ax hcl hax => ?_)
  refine ⟨fun (c0 : F 5 ≤ F 4) => ?_, fun (c0 : ¬ F 5 ≤ F 4) => ?_⟩
  · rw [h5, h4, nI_leI (by omega) (by omega)] at c0
    have nd : ¬ (tb c k e < k ∧ isD (c (tb c k e)) = true) := fun q => by
      have := (rU_gt (p := isD)).mpr q
      omega
    refine ⟨fun (c1 : F 4 < F 0) => ?_, fun (c1 : ¬ F 4 < F 0) => ?_⟩
    · rw [h4, h0, nI_ltI (by omega) (by omega)] at c1
      have l0 : isL (c (tb c k e)) = false := by
        cases q : isL (c (tb c k e)) with
        | false => rfl
        | true => exact absurd ⟨c1, q⟩ nl
      have d0 : isD (c (tb c k e)) = false := by
        cases q : isD (c (tb c k e)) with
        | false => rfl
        | true => exact absurd ⟨c1, q⟩ nd
      obtain ⟨q1, q2, q3⟩ := tk3 c1 l0 d0
      refine ⟨show vp_in (F 4) 120 by rw [h4]; exact vp_in_nI (by omega) (by decide), ?_⟩
      have ec : A 63 (F 4).toNatClampNeg = c (tb c k e) := by rw [e4]; exact hc _ c1
      have fin : ∀ z, z = tx c k e → K none (SH, va_up A 45 (upd (upd F 3 z) 5 (F 4 + 1)), B) := fun z hz => by
        refine hK _ ⟨?_, ?_, ?_, ?_, fun q => ?_⟩
        · rw [ud_n (by decide), ud_n (by decide)]; exact h0
        · rw [ud_n (by decide), ud_s]; exact hz
        · rw [ud_n (by decide), ud_n (by decide)]; exact h4
        · rw [ud_s, h4, nI_1, q2]
        · rw [q1] at q; omega
      refine ⟨fun (c2 : ¬ A 63 (F 4).toNatClampNeg = 59) => ?_, fun (c2 : A 63 (F 4).toNatClampNeg = 59) => ?_⟩
      · rw [ec] at c2
        have this := fin 4 (by unfold tx; rw [if_pos ⟨q1, c2⟩])
        rw [← up3 F (upd F 3 4)] at this
        exact this
      · rw [ec] at c2
        have this := fin 3 (by unfold tx; rw [if_neg (fun z => z.2 c2), q1]; rfl)
        rw [← up3 F (upd F 3 3)] at this
        exact this
    · rw [h4, h0, nI_ltI (by omega) (by omega)] at c1
      obtain ⟨q1, q2, q3⟩ := tk0 c1
      have eb : rU isD c k (tb c k e) = tb c k e := by omega
      have this : K none (SH, va_up A 45 (upd F 3 0), B) := by
        refine hK _ ⟨?_, ?_, ?_, ?_, fun q => ?_⟩
        · rw [ud_n (by decide)]; exact h0
        · rw [ud_s]; unfold tx; rw [if_neg (fun z => by rw [q1] at z; omega), q1]; rfl
        · rw [ud_n (by decide)]; exact h4
        · rw [ud_n (by decide), h5, eb, q2]
        · rw [q1] at q; omega
      rw [← up_up (F := F)] at this
      exact this
  · rw [h5, h4, nI_leI (by omega) (by omega)] at c0
    obtain ⟨z1, z2⟩ := (rU_gt (p := isD)).mp (show tb c k e < rU isD c k (tb c k e) by omega)
    have l0 : isL (c (tb c k e)) = false := by
      cases q : isL (c (tb c k e)) with
      | false => rfl
      | true => exact absurd ⟨z1, q⟩ nl
    obtain ⟨q1, q2, q3⟩ := tk2 z1 l0 z2
    have this : K none (SH, va_up A 45 (upd F 3 2), B) := by
      refine hK _ ⟨?_, ?_, ?_, ?_, fun q => ?_⟩
      · rw [ud_n (by decide)]; exact h0
      · rw [ud_s]; unfold tx; rw [if_neg (fun z => by rw [q1] at z; omega), q1]; rfl
      · rw [ud_n (by decide)]; exact h4
      · rw [ud_n (by decide), h5, q2]
      · rw [ud_n (by decide), h6, q3]
    rw [← up_up (F := F)] at this
    exact this
theorem w_nextToken {E : ME} {d : Nat} {A : Nat → Nat → Int32} {B : Nat → Nat → Int64} {K : MK} {c : Nat → Int32} {k e : Nat} (hk : k ≤ 120) (he : e ≤ k) (hc : ∀ j, j < k → A 63 j = c j) (h0 : A 45 0 = nI k) (h5 : A 45 5 = nI e) (hK : ∀ F, TX c k F e → K none (SH, va_up A 45 F, B)) : mCall E (d + 1) nX6_nextToken [.ref 45] (SH, A, B) K := by
  have hb : tb c k e ≤ k := rU_le he
  refine mCall_sem MX6_nextToken rfl rfl (Or.inl ⟨rfl, rfl, rfl⟩) rfl (mSem_wp MX6_nextToken rfl aX6_nextToken 300 [8] (fun cl ax hcl hax => ?_))
  have out46 : ∀ F, F 0 = nI k → F 4 = nI (tb c k e) → mSem E (d + 1) nX6_nextToken (SH, A, B) 0 0 K 46 [some (.ref 45)] [] (SH, va_up A 45 F, B) := fun F f0 f4 => by
    refine mSem_wp MX6_nextToken rfl aX6_nextToken 300 [54] (fun cl ax hcl hax => ?_)
    have this := lp_nt2 (E := E) (d := d) (A := A) (A0 := A) (B := B) (K := K) (c := c) (k := k) (b := tb c k e) hk hb hc (fun F g0 g4 g5 => ?_) (tb c k e, upd F 5 (F 4)) ⟨hb, rfl, f0, f4, f4⟩
    · have this : mSem E (d + 1) nX6_nextToken (SH, A, B) 0 0 K 54 [some (.ref 45)] [] (SH, va_up A 45 (upd F 5 (F 4)), B) := this
      rw [← up_up (F := F)] at this
      exact hax _ _ _ _ this
    · have hle : rU isL c k (tb c k e) ≤ k := rU_le hb
      have hge := rU_ge isL c k (tb c k e)
      refine mSem_wp MX6_nextToken rfl aX6_nextToken 300 [115] (fun cl ax hcl hax => ?_)
      refine ⟨fun (c0 : F 5 ≤ F 4) => ?_, fun (c0 : ¬ F 5 ≤ F 4) => ?_⟩
      · rw [g5, g4, nI_leI (by omega) (by omega)] at c0
        have nl : ¬ (tb c k e < k ∧ isL (c (tb c k e)) = true) := fun q => by
          have := (rU_gt (p := isL)).mpr q
          omega
        have this := lp_nt3 (E := E) (d := d) (A := A) (A0 := A) (B := B) (K := K) (c := c) (k := k) (b := tb c k e) hk hb hc (fun F a0 a4 a5 a6 => nt184 hk he hc nl hK a0 a4 a5 a6) (tb c k e, upd F 6 0) ⟨hb, rfl, g0, g4, (by show F 5 = nI (tb c k e); rw [g5]; congr 1; omega), rfl⟩
        have this : mSem E (d + 1) nX6_nextToken (SH, A, B) 0 0 K 115 [some (.ref 45)] [] (SH, va_up A 45 (upd F 6 0), B) := this
        rw [← up_up (F := F)] at this
        exact hax _ _ _ _ this
      · rw [g5, g4, nI_leI (by omega) (by omega)] at c0
        obtain ⟨z1, z2⟩ := (rU_gt (p := isL)).mp (show tb c k e < rU isL c k (tb c k e) by omega)
        obtain ⟨q1, q2, q3⟩ := tk1 z1 z2
        have this : K none (SH, va_up A 45 (upd F 3 1), B) := by
          refine hK _ ⟨?_, ?_, ?_, ?_, fun q => ?_⟩
          · rw [ud_n (by decide)]; exact g0
          · rw [ud_s]; unfold tx; rw [if_neg (fun z => by rw [q1] at z; omega), q1]; rfl
          · rw [ud_n (by decide)]; exact g4
          · rw [ud_n (by decide), g5, q2]
          · rw [q1] at q; omega
        rw [← up_up (F := F)] at this
        exact this
  exact hax _ _ _ _ (lp_nt1 (A := A) (c := c) (e := e) hk hc out46 (e, upd (A 45) 4 (A 45 5)) ⟨he, rfl, h0, h5⟩)
