/-! copy -/
def RW (m f n : Int32) : Prop := 0 ≤ f ∧ 0 ≤ n ∧ n ≤ m ∧ f ≤ m - n
theorem RW_n {k : Nat} {f n : Int32} (hk : k ≤ 40) (h : RW (nI k) f n) : ∃ i c, f = nI i ∧ n = nI c ∧ i + c ≤ k := by
  obtain ⟨h1, h2, h3, h4⟩ := h
  have q1 : nI k ≤ 40 := nI_le (b := 40) hk (by decide)
  obtain ⟨c, hc, rfl⟩ := ix_le 40 h2 (show n ≤ 40 by grind) rfl
  rw [nI_leI (by omega) (by omega)] at h3
  rw [pk_sub h3] at h4
  have q2 : nI (k - c) ≤ 40 := nI_le (b := 40) (by omega) (by decide)
  obtain ⟨i, hi, rfl⟩ := ix_le 40 h1 (show f ≤ 40 by grind) rfl
  rw [nI_leI (by omega) (by omega)] at h4
  exact ⟨i, c, rfl, rfl, by omega⟩
theorem RW_m {k : Nat} {f n : Int32} (hk : k ≤ 40) (f0 : 0 ≤ f) (n0 : 0 ≤ n) : (0 < lg_cmp (f.toInt64 + n.toInt64) (nI k).toInt64) ↔ ¬ RW (nI k) f n := by
  obtain ⟨i, hi, rfl⟩ := nI_of (x := f) (by grind)
  obtain ⟨c, hc, rfl⟩ := nI_of (x := n) (by grind)
  rw [lg_cmp_gt, nI_l hi, nI_l hc, nI_l (by omega), lN_add, pk_lLT (by omega) (by omega)]
  constructor
  · intro h q
    obtain ⟨i2, c2, e1, e2, e3⟩ := RW_n hk q
    have q1 : nI k ≤ 40 := nI_le (b := 40) hk (by decide)
    have a1 : nI c ≤ nI k := q.2.2.1
    rw [nI_leI (by omega) (by omega)] at a1
    have a2 := q.2.2.2
    rw [pk_sub a1, nI_leI (by omega) (by omega)] at a2
    omega
  · intro h
    rcases Nat.lt_or_ge k (i + c) with q | q
    · exact q
    · exfalso
      refine h ⟨f0, n0, (nI_leI (by omega) (by omega)).mpr (by omega), ?_⟩
      rw [pk_sub (by omega), nI_leI (by omega) (by omega)]
      omega
theorem w_hasRow65 {E : ME} {d : Nat} {f n m : Int32} {A : Nat → Nat → Int32} {B : Nat → Nat → Int64} {K : MK} (hm : A 65 1 = m) (k1 : RW m f n → K (some (.int 1)) (SH, A, B)) (k0 : ¬ RW m f n → K (some (.int 0)) (SH, A, B)) : mCall E d nX3_hasRow [.ref 65, .int f, .int n] (SH, A, B) K := by
  subst hm
  refine mCall_sem MX3_hasRow rfl rfl (Or.inl ⟨rfl, rfl, rfl⟩) rfl (mSem_wp MX3_hasRow rfl aX3_hasRow 300 [] (fun cl ax hcl hax => ?_))
  refine ⟨fun (c1 : f < 0) => ⟨rfl, k0 (fun q => ?_)⟩, fun (c1 : ¬ f < 0) => ⟨fun (c2 : n < 0) => ⟨rfl, k0 (fun q => ?_)⟩, fun (c2 : ¬ n < 0) => ⟨fun (c3 : A 65 1 < n) => ⟨rfl, k0 (fun q => ?_)⟩, fun (c3 : ¬ A 65 1 < n) => ⟨fun (c4 : A 65 1 - n < f) => ⟨rfl, k0 (fun q => ?_)⟩, fun (c4 : ¬ A 65 1 - n < f) => ⟨rfl, k1 ?_⟩⟩⟩⟩⟩
  · have q := q.1; clear hcl hax k0 k1; grind
  · have q := q.2.1; clear hcl hax k0 k1; grind
  · have q := q.2.2.1; clear hcl hax k0 k1; grind
  · have q := q.2.2.2; clear hcl hax k0 k1; grind
  · clear hcl hax k0 k1
    exact ⟨by grind, by grind, by grind, by grind⟩
theorem w_hasRow67 {E : ME} {d : Nat} {f n m : Int32} {A : Nat → Nat → Int32} {B : Nat → Nat → Int64} {K : MK} (hm : A 67 1 = m) (k1 : RW m f n → K (some (.int 1)) (SH, A, B)) (k0 : ¬ RW m f n → K (some (.int 0)) (SH, A, B)) : mCall E d nX3_hasRow [.ref 67, .int f, .int n] (SH, A, B) K := by
  subst hm
  refine mCall_sem MX3_hasRow rfl rfl (Or.inl ⟨rfl, rfl, rfl⟩) rfl (mSem_wp MX3_hasRow rfl aX3_hasRow 300 [] (fun cl ax hcl hax => ?_))
  refine ⟨fun (c1 : f < 0) => ⟨rfl, k0 (fun q => ?_)⟩, fun (c1 : ¬ f < 0) => ⟨fun (c2 : n < 0) => ⟨rfl, k0 (fun q => ?_)⟩, fun (c2 : ¬ n < 0) => ⟨fun (c3 : A 67 1 < n) => ⟨rfl, k0 (fun q => ?_)⟩, fun (c3 : ¬ A 67 1 < n) => ⟨fun (c4 : A 67 1 - n < f) => ⟨rfl, k0 (fun q => ?_)⟩, fun (c4 : ¬ A 67 1 - n < f) => ⟨rfl, k1 ?_⟩⟩⟩⟩⟩
  · have q := q.1; clear hcl hax k0 k1; grind
  · have q := q.2.1; clear hcl hax k0 k1; grind
  · have q := q.2.2.1; clear hcl hax k0 k1; grind
  · have q := q.2.2.2; clear hcl hax k0 k1; grind
  · clear hcl hax k0 k1
    exact ⟨by grind, by grind, by grind, by grind⟩
theorem w_hasRow69 {E : ME} {d : Nat} {f n m : Int32} {A : Nat → Nat → Int32} {B : Nat → Nat → Int64} {K : MK} (hm : A 69 1 = m) (k1 : RW m f n → K (some (.int 1)) (SH, A, B)) (k0 : ¬ RW m f n → K (some (.int 0)) (SH, A, B)) : mCall E d nX3_hasRow [.ref 69, .int f, .int n] (SH, A, B) K := by
  subst hm
  refine mCall_sem MX3_hasRow rfl rfl (Or.inl ⟨rfl, rfl, rfl⟩) rfl (mSem_wp MX3_hasRow rfl aX3_hasRow 300 [] (fun cl ax hcl hax => ?_))
  refine ⟨fun (c1 : f < 0) => ⟨rfl, k0 (fun q => ?_)⟩, fun (c1 : ¬ f < 0) => ⟨fun (c2 : n < 0) => ⟨rfl, k0 (fun q => ?_)⟩, fun (c2 : ¬ n < 0) => ⟨fun (c3 : A 69 1 < n) => ⟨rfl, k0 (fun q => ?_)⟩, fun (c3 : ¬ A 69 1 < n) => ⟨fun (c4 : A 69 1 - n < f) => ⟨rfl, k0 (fun q => ?_)⟩, fun (c4 : ¬ A 69 1 - n < f) => ⟨rfl, k1 ?_⟩⟩⟩⟩⟩
  · have q := q.1; clear hcl hax k0 k1; grind
  · have q := q.2.1; clear hcl hax k0 k1; grind
  · have q := q.2.2.1; clear hcl hax k0 k1; grind
  · have q := q.2.2.2; clear hcl hax k0 k1; grind
  · clear hcl hax k0 k1
    exact ⟨by grind, by grind, by grind, by grind⟩
theorem w_hasRow71 {E : ME} {d : Nat} {f n m : Int32} {A : Nat → Nat → Int32} {B : Nat → Nat → Int64} {K : MK} (hm : A 71 1 = m) (k1 : RW m f n → K (some (.int 1)) (SH, A, B)) (k0 : ¬ RW m f n → K (some (.int 0)) (SH, A, B)) : mCall E d nX3_hasRow [.ref 71, .int f, .int n] (SH, A, B) K := by
  subst hm
  refine mCall_sem MX3_hasRow rfl rfl (Or.inl ⟨rfl, rfl, rfl⟩) rfl (mSem_wp MX3_hasRow rfl aX3_hasRow 300 [] (fun cl ax hcl hax => ?_))
  refine ⟨fun (c1 : f < 0) => ⟨rfl, k0 (fun q => ?_)⟩, fun (c1 : ¬ f < 0) => ⟨fun (c2 : n < 0) => ⟨rfl, k0 (fun q => ?_)⟩, fun (c2 : ¬ n < 0) => ⟨fun (c3 : A 71 1 < n) => ⟨rfl, k0 (fun q => ?_)⟩, fun (c3 : ¬ A 71 1 < n) => ⟨fun (c4 : A 71 1 - n < f) => ⟨rfl, k0 (fun q => ?_)⟩, fun (c4 : ¬ A 71 1 - n < f) => ⟨rfl, k1 ?_⟩⟩⟩⟩⟩
  · have q := q.1; clear hcl hax k0 k1; grind
  · have q := q.2.1; clear hcl hax k0 k1; grind
  · have q := q.2.2.1; clear hcl hax k0 k1; grind
  · have q := q.2.2.2; clear hcl hax k0 k1; grind
  · clear hcl hax k0 k1
    exact ⟨by grind, by grind, by grind, by grind⟩
theorem w_X8_copy00 {E : ME} {d : Nat} {f g n : Int32} {k k' : Nat} {A : Nat → Nat → Int32} {B : Nat → Nat → Int64} {K : MK} (hk : k ≤ 40) (ha : A 65 1 = nI k) (hk' : k' ≤ 40) (hb : A 65 1 = nI k') (k5 : (A 65 0 = 0 ∨ A 65 0 = 0) → K (some (.int (-1000000006))) (SH, cnt1 A 5, B)) (k2 : ¬ (A 65 0 = 0 ∨ A 65 0 = 0) → ¬ A 65 0 = A 65 0 → K (some (.int (-1000000003))) (SH, cnt1 A 2, B)) (k0 : ¬ (A 65 0 = 0 ∨ A 65 0 = 0) → A 65 0 = A 65 0 → ¬ (RW (nI k) f n ∧ RW (nI k') g n) → K (some (.int (-1000000001))) (SH, cnt1 A 0, B)) (k1 : ¬ (A 65 0 = 0 ∨ A 65 0 = 0) → A 65 0 = A 65 0 → ∀ i j c, f = nI i → g = nI j → n = nI c → i + c ≤ k → j + c ≤ k' → RW (nI k) f n → RW (nI k') g n → K (some (.int n)) (SH, A, va_up B 66 (va_cpy (B 66) (B 66) i j c))) : mCall E (d + 2) nX8_copy [.ref 0, .int (nI 0), .int f, .int (nI 0), .int g, .int n] (SH, A, B) K := by
  refine mCall_sem MX8_copy rfl rfl (Or.inl ⟨rfl, rfl, rfl⟩) rfl (mSem_wp MX8_copy rfl aX8_copy 300 [] (fun cl ax hcl hax => ?_))
  refine hcl _ _ _ _ (w_X8_isSheet (fun _ _ => ?_) (fun c0 => absurd (by decide) c0))
  refine ⟨fun h9 => absurd h9 (by decide), fun _ => ?_⟩
  refine hcl _ _ _ _ (w_X8_isSheet (fun _ _ => ?_) (fun c0 => absurd (by decide) c0))
  refine ⟨fun _ => ?_, fun h9 => absurd h9 (by decide)⟩
  refine ⟨vl 0 rfl rfl, ?_⟩
  refine ⟨vl 0 rfl rfl, ?_⟩
  refine hcl _ _ _ _ (w_miss65 (fun c => ?_) (fun c => ?_))
  · refine ⟨fun _ => ?_, fun h9 => absurd h9 (by decide)⟩
    exact hcl _ _ _ _ (w_X8_refuse 5 (by decide) (by decide) (k5 (Or.inl c)))
  · refine ⟨fun h9 => absurd h9 (by decide), fun _ => ?_⟩
    refine hcl _ _ _ _ (w_miss65 (fun c2 => ?_) (fun c2 => ?_))
    · refine ⟨fun h9 => absurd h9 (by decide), fun _ => ?_⟩
      exact hcl _ _ _ _ (w_X8_refuse 5 (by decide) (by decide) (k5 (Or.inr c2)))
    · refine ⟨fun _ => ?_, fun h9 => absurd h9 (by decide)⟩
      have cn : ¬ (A 65 0 = 0 ∨ A 65 0 = 0) := fun q => q.elim c c2
      refine ⟨fun (c3 : A 65 0 = A 65 0) => ?_, fun (c3 : ¬ A 65 0 = A 65 0) => ?_⟩
      · refine hcl _ _ _ _ (w_hasRow65 ha (fun c4 => ?_) (fun c4 => ?_))
        · refine ⟨fun h9 => absurd h9 (by decide), fun _ => ?_⟩
          refine hcl _ _ _ _ (w_hasRow65 hb (fun c5 => ?_) (fun c5 => ?_))
          · refine ⟨fun _ => ?_, fun h9 => absurd h9 (by decide)⟩
            obtain ⟨i, c, e1, e2, e3⟩ := RW_n hk c4
            obtain ⟨j, c', e4, e5, e6⟩ := RW_n hk' c5
            have : c' = c := by
              rw [e2] at e5
              exact ((nI_eq (by omega) (by omega)).mp e5).symm
            subst this
            have this := k1 cn c3 i j c' e1 e4 e2 e3 e6 c4 c5
            subst e1
            subst e2
            subst e4
            have q1 : (nI i).toNatClampNeg = i := nI_clamp (by omega)
            have q2 : (nI j).toNatClampNeg = j := nI_clamp (by omega)
            have q3 : (nI c').toNatClampNeg = c' := nI_clamp (by omega)
            refine ⟨nI_pos (by omega), nI_pos (by omega), nI_pos (by omega), by rw [q1, q3]; show _ ≤ 40; omega, by rw [q2, q3]; show _ ≤ 40; omega, ?_⟩
            rw [q1, q2, q3]
            exact this
          · refine ⟨fun h9 => absurd h9 (by decide), fun _ => ?_⟩
            exact hcl _ _ _ _ (w_X8_refuse 0 (by decide) (by decide) (k0 cn c3 (fun q => c5 q.2)))
        · refine ⟨fun _ => ?_, fun h9 => absurd h9 (by decide)⟩
          exact hcl _ _ _ _ (w_X8_refuse 0 (by decide) (by decide) (k0 cn c3 (fun q => c4 q.1)))
      · exact hcl _ _ _ _ (w_X8_refuse 2 (by decide) (by decide) (k2 cn c3))
theorem w_X8_copy01 {E : ME} {d : Nat} {f g n : Int32} {k k' : Nat} {A : Nat → Nat → Int32} {B : Nat → Nat → Int64} {K : MK} (hk : k ≤ 40) (ha : A 65 1 = nI k) (hk' : k' ≤ 40) (hb : A 67 1 = nI k') (k5 : (A 65 0 = 0 ∨ A 67 0 = 0) → K (some (.int (-1000000006))) (SH, cnt1 A 5, B)) (k2 : ¬ (A 65 0 = 0 ∨ A 67 0 = 0) → ¬ A 65 0 = A 67 0 → K (some (.int (-1000000003))) (SH, cnt1 A 2, B)) (k0 : ¬ (A 65 0 = 0 ∨ A 67 0 = 0) → A 65 0 = A 67 0 → ¬ (RW (nI k) f n ∧ RW (nI k') g n) → K (some (.int (-1000000001))) (SH, cnt1 A 0, B)) (k1 : ¬ (A 65 0 = 0 ∨ A 67 0 = 0) → A 65 0 = A 67 0 → ∀ i j c, f = nI i → g = nI j → n = nI c → i + c ≤ k → j + c ≤ k' → RW (nI k) f n → RW (nI k') g n → K (some (.int n)) (SH, A, va_up B 68 (va_cpy (B 66) (B 68) i j c))) : mCall E (d + 2) nX8_copy [.ref 0, .int (nI 0), .int f, .int (nI 1), .int g, .int n] (SH, A, B) K := by
  refine mCall_sem MX8_copy rfl rfl (Or.inl ⟨rfl, rfl, rfl⟩) rfl (mSem_wp MX8_copy rfl aX8_copy 300 [] (fun cl ax hcl hax => ?_))
  refine hcl _ _ _ _ (w_X8_isSheet (fun _ _ => ?_) (fun c0 => absurd (by decide) c0))
  refine ⟨fun h9 => absurd h9 (by decide), fun _ => ?_⟩
  refine hcl _ _ _ _ (w_X8_isSheet (fun _ _ => ?_) (fun c0 => absurd (by decide) c0))
  refine ⟨fun _ => ?_, fun h9 => absurd h9 (by decide)⟩
  refine ⟨vl 0 rfl rfl, ?_⟩
  refine ⟨vl 1 rfl rfl, ?_⟩
  refine hcl _ _ _ _ (w_miss65 (fun c => ?_) (fun c => ?_))
  · refine ⟨fun _ => ?_, fun h9 => absurd h9 (by decide)⟩
    exact hcl _ _ _ _ (w_X8_refuse 5 (by decide) (by decide) (k5 (Or.inl c)))
  · refine ⟨fun h9 => absurd h9 (by decide), fun _ => ?_⟩
    refine hcl _ _ _ _ (w_miss67 (fun c2 => ?_) (fun c2 => ?_))
    · refine ⟨fun h9 => absurd h9 (by decide), fun _ => ?_⟩
      exact hcl _ _ _ _ (w_X8_refuse 5 (by decide) (by decide) (k5 (Or.inr c2)))
    · refine ⟨fun _ => ?_, fun h9 => absurd h9 (by decide)⟩
      have cn : ¬ (A 65 0 = 0 ∨ A 67 0 = 0) := fun q => q.elim c c2
      refine ⟨fun (c3 : A 65 0 = A 67 0) => ?_, fun (c3 : ¬ A 65 0 = A 67 0) => ?_⟩
      · refine hcl _ _ _ _ (w_hasRow65 ha (fun c4 => ?_) (fun c4 => ?_))
        · refine ⟨fun h9 => absurd h9 (by decide), fun _ => ?_⟩
          refine hcl _ _ _ _ (w_hasRow67 hb (fun c5 => ?_) (fun c5 => ?_))
          · refine ⟨fun _ => ?_, fun h9 => absurd h9 (by decide)⟩
            obtain ⟨i, c, e1, e2, e3⟩ := RW_n hk c4
            obtain ⟨j, c', e4, e5, e6⟩ := RW_n hk' c5
            have : c' = c := by
              rw [e2] at e5
              exact ((nI_eq (by omega) (by omega)).mp e5).symm
            subst this
            have this := k1 cn c3 i j c' e1 e4 e2 e3 e6 c4 c5
            subst e1
            subst e2
            subst e4
            have q1 : (nI i).toNatClampNeg = i := nI_clamp (by omega)
            have q2 : (nI j).toNatClampNeg = j := nI_clamp (by omega)
            have q3 : (nI c').toNatClampNeg = c' := nI_clamp (by omega)
            refine ⟨nI_pos (by omega), nI_pos (by omega), nI_pos (by omega), by rw [q1, q3]; show _ ≤ 40; omega, by rw [q2, q3]; show _ ≤ 40; omega, ?_⟩
            rw [q1, q2, q3]
            exact this
          · refine ⟨fun h9 => absurd h9 (by decide), fun _ => ?_⟩
            exact hcl _ _ _ _ (w_X8_refuse 0 (by decide) (by decide) (k0 cn c3 (fun q => c5 q.2)))
        · refine ⟨fun _ => ?_, fun h9 => absurd h9 (by decide)⟩
          exact hcl _ _ _ _ (w_X8_refuse 0 (by decide) (by decide) (k0 cn c3 (fun q => c4 q.1)))
      · exact hcl _ _ _ _ (w_X8_refuse 2 (by decide) (by decide) (k2 cn c3))
theorem w_X8_copy02 {E : ME} {d : Nat} {f g n : Int32} {k k' : Nat} {A : Nat → Nat → Int32} {B : Nat → Nat → Int64} {K : MK} (hk : k ≤ 40) (ha : A 65 1 = nI k) (hk' : k' ≤ 40) (hb : A 69 1 = nI k') (k5 : (A 65 0 = 0 ∨ A 69 0 = 0) → K (some (.int (-1000000006))) (SH, cnt1 A 5, B)) (k2 : ¬ (A 65 0 = 0 ∨ A 69 0 = 0) → ¬ A 65 0 = A 69 0 → K (some (.int (-1000000003))) (SH, cnt1 A 2, B)) (k0 : ¬ (A 65 0 = 0 ∨ A 69 0 = 0) → A 65 0 = A 69 0 → ¬ (RW (nI k) f n ∧ RW (nI k') g n) → K (some (.int (-1000000001))) (SH, cnt1 A 0, B)) (k1 : ¬ (A 65 0 = 0 ∨ A 69 0 = 0) → A 65 0 = A 69 0 → ∀ i j c, f = nI i → g = nI j → n = nI c → i + c ≤ k → j + c ≤ k' → RW (nI k) f n → RW (nI k') g n → K (some (.int n)) (SH, A, va_up B 70 (va_cpy (B 66) (B 70) i j c))) : mCall E (d + 2) nX8_copy [.ref 0, .int (nI 0), .int f, .int (nI 2), .int g, .int n] (SH, A, B) K := by
  refine mCall_sem MX8_copy rfl rfl (Or.inl ⟨rfl, rfl, rfl⟩) rfl (mSem_wp MX8_copy rfl aX8_copy 300 [] (fun cl ax hcl hax => ?_))
  refine hcl _ _ _ _ (w_X8_isSheet (fun _ _ => ?_) (fun c0 => absurd (by decide) c0))
  refine ⟨fun h9 => absurd h9 (by decide), fun _ => ?_⟩
  refine hcl _ _ _ _ (w_X8_isSheet (fun _ _ => ?_) (fun c0 => absurd (by decide) c0))
  refine ⟨fun _ => ?_, fun h9 => absurd h9 (by decide)⟩
  refine ⟨vl 0 rfl rfl, ?_⟩
  refine ⟨vl 2 rfl rfl, ?_⟩
  refine hcl _ _ _ _ (w_miss65 (fun c => ?_) (fun c => ?_))
  · refine ⟨fun _ => ?_, fun h9 => absurd h9 (by decide)⟩
    exact hcl _ _ _ _ (w_X8_refuse 5 (by decide) (by decide) (k5 (Or.inl c)))
  · refine ⟨fun h9 => absurd h9 (by decide), fun _ => ?_⟩
    refine hcl _ _ _ _ (w_miss69 (fun c2 => ?_) (fun c2 => ?_))
    · refine ⟨fun h9 => absurd h9 (by decide), fun _ => ?_⟩
      exact hcl _ _ _ _ (w_X8_refuse 5 (by decide) (by decide) (k5 (Or.inr c2)))
    · refine ⟨fun _ => ?_, fun h9 => absurd h9 (by decide)⟩
      have cn : ¬ (A 65 0 = 0 ∨ A 69 0 = 0) := fun q => q.elim c c2
      refine ⟨fun (c3 : A 65 0 = A 69 0) => ?_, fun (c3 : ¬ A 65 0 = A 69 0) => ?_⟩
      · refine hcl _ _ _ _ (w_hasRow65 ha (fun c4 => ?_) (fun c4 => ?_))
        · refine ⟨fun h9 => absurd h9 (by decide), fun _ => ?_⟩
          refine hcl _ _ _ _ (w_hasRow69 hb (fun c5 => ?_) (fun c5 => ?_))
          · refine ⟨fun _ => ?_, fun h9 => absurd h9 (by decide)⟩
            obtain ⟨i, c, e1, e2, e3⟩ := RW_n hk c4
            obtain ⟨j, c', e4, e5, e6⟩ := RW_n hk' c5
            have : c' = c := by
              rw [e2] at e5
              exact ((nI_eq (by omega) (by omega)).mp e5).symm
            subst this
            have this := k1 cn c3 i j c' e1 e4 e2 e3 e6 c4 c5
            subst e1
            subst e2
            subst e4
            have q1 : (nI i).toNatClampNeg = i := nI_clamp (by omega)
            have q2 : (nI j).toNatClampNeg = j := nI_clamp (by omega)
            have q3 : (nI c').toNatClampNeg = c' := nI_clamp (by omega)
            refine ⟨nI_pos (by omega), nI_pos (by omega), nI_pos (by omega), by rw [q1, q3]; show _ ≤ 40; omega, by rw [q2, q3]; show _ ≤ 40; omega, ?_⟩
            rw [q1, q2, q3]
            exact this
          · refine ⟨fun h9 => absurd h9 (by decide), fun _ => ?_⟩
            exact hcl _ _ _ _ (w_X8_refuse 0 (by decide) (by decide) (k0 cn c3 (fun q => c5 q.2)))
        · refine ⟨fun _ => ?_, fun h9 => absurd h9 (by decide)⟩
          exact hcl _ _ _ _ (w_X8_refuse 0 (by decide) (by decide) (k0 cn c3 (fun q => c4 q.1)))
      · exact hcl _ _ _ _ (w_X8_refuse 2 (by decide) (by decide) (k2 cn c3))
theorem w_X8_copy03 {E : ME} {d : Nat} {f g n : Int32} {k k' : Nat} {A : Nat → Nat → Int32} {B : Nat → Nat → Int64} {K : MK} (hk : k ≤ 40) (ha : A 65 1 = nI k) (hk' : k' ≤ 40) (hb : A 71 1 = nI k') (k5 : (A 65 0 = 0 ∨ A 71 0 = 0) → K (some (.int (-1000000006))) (SH, cnt1 A 5, B)) (k2 : ¬ (A 65 0 = 0 ∨ A 71 0 = 0) → ¬ A 65 0 = A 71 0 → K (some (.int (-1000000003))) (SH, cnt1 A 2, B)) (k0 : ¬ (A 65 0 = 0 ∨ A 71 0 = 0) → A 65 0 = A 71 0 → ¬ (RW (nI k) f n ∧ RW (nI k') g n) → K (some (.int (-1000000001))) (SH, cnt1 A 0, B)) (k1 : ¬ (A 65 0 = 0 ∨ A 71 0 = 0) → A 65 0 = A 71 0 → ∀ i j c, f = nI i → g = nI j → n = nI c → i + c ≤ k → j + c ≤ k' → RW (nI k) f n → RW (nI k') g n → K (some (.int n)) (SH, A, va_up B 72 (va_cpy (B 66) (B 72) i j c))) : mCall E (d + 2) nX8_copy [.ref 0, .int (nI 0), .int f, .int (nI 3), .int g, .int n] (SH, A, B) K := by
  refine mCall_sem MX8_copy rfl rfl (Or.inl ⟨rfl, rfl, rfl⟩) rfl (mSem_wp MX8_copy rfl aX8_copy 300 [] (fun cl ax hcl hax => ?_))
  refine hcl _ _ _ _ (w_X8_isSheet (fun _ _ => ?_) (fun c0 => absurd (by decide) c0))
  refine ⟨fun h9 => absurd h9 (by decide), fun _ => ?_⟩
  refine hcl _ _ _ _ (w_X8_isSheet (fun _ _ => ?_) (fun c0 => absurd (by decide) c0))
  refine ⟨fun _ => ?_, fun h9 => absurd h9 (by decide)⟩
  refine ⟨vl 0 rfl rfl, ?_⟩
  refine ⟨vl 3 rfl rfl, ?_⟩
  refine hcl _ _ _ _ (w_miss65 (fun c => ?_) (fun c => ?_))
  · refine ⟨fun _ => ?_, fun h9 => absurd h9 (by decide)⟩
    exact hcl _ _ _ _ (w_X8_refuse 5 (by decide) (by decide) (k5 (Or.inl c)))
  · refine ⟨fun h9 => absurd h9 (by decide), fun _ => ?_⟩
    refine hcl _ _ _ _ (w_miss71 (fun c2 => ?_) (fun c2 => ?_))
    · refine ⟨fun h9 => absurd h9 (by decide), fun _ => ?_⟩
      exact hcl _ _ _ _ (w_X8_refuse 5 (by decide) (by decide) (k5 (Or.inr c2)))
    · refine ⟨fun _ => ?_, fun h9 => absurd h9 (by decide)⟩
      have cn : ¬ (A 65 0 = 0 ∨ A 71 0 = 0) := fun q => q.elim c c2
      refine ⟨fun (c3 : A 65 0 = A 71 0) => ?_, fun (c3 : ¬ A 65 0 = A 71 0) => ?_⟩
      · refine hcl _ _ _ _ (w_hasRow65 ha (fun c4 => ?_) (fun c4 => ?_))
        · refine ⟨fun h9 => absurd h9 (by decide), fun _ => ?_⟩
          refine hcl _ _ _ _ (w_hasRow71 hb (fun c5 => ?_) (fun c5 => ?_))
          · refine ⟨fun _ => ?_, fun h9 => absurd h9 (by decide)⟩
            obtain ⟨i, c, e1, e2, e3⟩ := RW_n hk c4
            obtain ⟨j, c', e4, e5, e6⟩ := RW_n hk' c5
            have : c' = c := by
              rw [e2] at e5
              exact ((nI_eq (by omega) (by omega)).mp e5).symm
            subst this
            have this := k1 cn c3 i j c' e1 e4 e2 e3 e6 c4 c5
            subst e1
            subst e2
            subst e4
            have q1 : (nI i).toNatClampNeg = i := nI_clamp (by omega)
            have q2 : (nI j).toNatClampNeg = j := nI_clamp (by omega)
            have q3 : (nI c').toNatClampNeg = c' := nI_clamp (by omega)
            refine ⟨nI_pos (by omega), nI_pos (by omega), nI_pos (by omega), by rw [q1, q3]; show _ ≤ 40; omega, by rw [q2, q3]; show _ ≤ 40; omega, ?_⟩
            rw [q1, q2, q3]
            exact this
          · refine ⟨fun h9 => absurd h9 (by decide), fun _ => ?_⟩
            exact hcl _ _ _ _ (w_X8_refuse 0 (by decide) (by decide) (k0 cn c3 (fun q => c5 q.2)))
        · refine ⟨fun _ => ?_, fun h9 => absurd h9 (by decide)⟩
          exact hcl _ _ _ _ (w_X8_refuse 0 (by decide) (by decide) (k0 cn c3 (fun q => c4 q.1)))
      · exact hcl _ _ _ _ (w_X8_refuse 2 (by decide) (by decide) (k2 cn c3))
theorem w_X8_copy10 {E : ME} {d : Nat} {f g n : Int32} {k k' : Nat} {A : Nat → Nat → Int32} {B : Nat → Nat → Int64} {K : MK} (hk : k ≤ 40) (ha : A 67 1 = nI k) (hk' : k' ≤ 40) (hb : A 65 1 = nI k') (k5 : (A 67 0 = 0 ∨ A 65 0 = 0) → K (some (.int (-1000000006))) (SH, cnt1 A 5, B)) (k2 : ¬ (A 67 0 = 0 ∨ A 65 0 = 0) → ¬ A 67 0 = A 65 0 → K (some (.int (-1000000003))) (SH, cnt1 A 2, B)) (k0 : ¬ (A 67 0 = 0 ∨ A 65 0 = 0) → A 67 0 = A 65 0 → ¬ (RW (nI k) f n ∧ RW (nI k') g n) → K (some (.int (-1000000001))) (SH, cnt1 A 0, B)) (k1 : ¬ (A 67 0 = 0 ∨ A 65 0 = 0) → A 67 0 = A 65 0 → ∀ i j c, f = nI i → g = nI j → n = nI c → i + c ≤ k → j + c ≤ k' → RW (nI k) f n → RW (nI k') g n → K (some (.int n)) (SH, A, va_up B 66 (va_cpy (B 68) (B 66) i j c))) : mCall E (d + 2) nX8_copy [.ref 0, .int (nI 1), .int f, .int (nI 0), .int g, .int n] (SH, A, B) K := by
  refine mCall_sem MX8_copy rfl rfl (Or.inl ⟨rfl, rfl, rfl⟩) rfl (mSem_wp MX8_copy rfl aX8_copy 300 [] (fun cl ax hcl hax => ?_))
  refine hcl _ _ _ _ (w_X8_isSheet (fun _ _ => ?_) (fun c0 => absurd (by decide) c0))
  refine ⟨fun h9 => absurd h9 (by decide), fun _ => ?_⟩
  refine hcl _ _ _ _ (w_X8_isSheet (fun _ _ => ?_) (fun c0 => absurd (by decide) c0))
  refine ⟨fun _ => ?_, fun h9 => absurd h9 (by decide)⟩
  refine ⟨vl 1 rfl rfl, ?_⟩
  refine ⟨vl 0 rfl rfl, ?_⟩
  refine hcl _ _ _ _ (w_miss67 (fun c => ?_) (fun c => ?_))
  · refine ⟨fun _ => ?_, fun h9 => absurd h9 (by decide)⟩
    exact hcl _ _ _ _ (w_X8_refuse 5 (by decide) (by decide) (k5 (Or.inl c)))
  · refine ⟨fun h9 => absurd h9 (by decide), fun _ => ?_⟩
    refine hcl _ _ _ _ (w_miss65 (fun c2 => ?_) (fun c2 => ?_))
    · refine ⟨fun h9 => absurd h9 (by decide), fun _ => ?_⟩
      exact hcl _ _ _ _ (w_X8_refuse 5 (by decide) (by decide) (k5 (Or.inr c2)))
    · refine ⟨fun _ => ?_, fun h9 => absurd h9 (by decide)⟩
      have cn : ¬ (A 67 0 = 0 ∨ A 65 0 = 0) := fun q => q.elim c c2
      refine ⟨fun (c3 : A 67 0 = A 65 0) => ?_, fun (c3 : ¬ A 67 0 = A 65 0) => ?_⟩
      · refine hcl _ _ _ _ (w_hasRow67 ha (fun c4 => ?_) (fun c4 => ?_))
        · refine ⟨fun h9 => absurd h9 (by decide), fun _ => ?_⟩
          refine hcl _ _ _ _ (w_hasRow65 hb (fun c5 => ?_) (fun c5 => ?_))
          · refine ⟨fun _ => ?_, fun h9 => absurd h9 (by decide)⟩
            obtain ⟨i, c, e1, e2, e3⟩ := RW_n hk c4
            obtain ⟨j, c', e4, e5, e6⟩ := RW_n hk' c5
            have : c' = c := by
              rw [e2] at e5
              exact ((nI_eq (by omega) (by omega)).mp e5).symm
            subst this
            have this := k1 cn c3 i j c' e1 e4 e2 e3 e6 c4 c5
            subst e1
            subst e2
            subst e4
            have q1 : (nI i).toNatClampNeg = i := nI_clamp (by omega)
            have q2 : (nI j).toNatClampNeg = j := nI_clamp (by omega)
            have q3 : (nI c').toNatClampNeg = c' := nI_clamp (by omega)
            refine ⟨nI_pos (by omega), nI_pos (by omega), nI_pos (by omega), by rw [q1, q3]; show _ ≤ 40; omega, by rw [q2, q3]; show _ ≤ 40; omega, ?_⟩
            rw [q1, q2, q3]
            exact this
          · refine ⟨fun h9 => absurd h9 (by decide), fun _ => ?_⟩
            exact hcl _ _ _ _ (w_X8_refuse 0 (by decide) (by decide) (k0 cn c3 (fun q => c5 q.2)))
        · refine ⟨fun _ => ?_, fun h9 => absurd h9 (by decide)⟩
          exact hcl _ _ _ _ (w_X8_refuse 0 (by decide) (by decide) (k0 cn c3 (fun q => c4 q.1)))
      · exact hcl _ _ _ _ (w_X8_refuse 2 (by decide) (by decide) (k2 cn c3))
theorem w_X8_copy11 {E : ME} {d : Nat} {f g n : Int32} {k k' : Nat} {A : Nat → Nat → Int32} {B : Nat → Nat → Int64} {K : MK} (hk : k ≤ 40) (ha : A 67 1 = nI k) (hk' : k' ≤ 40) (hb : A 67 1 = nI k') (k5 : (A 67 0 = 0 ∨ A 67 0 = 0) → K (some (.int (-1000000006))) (SH, cnt1 A 5, B)) (k2 : ¬ (A 67 0 = 0 ∨ A 67 0 = 0) → ¬ A 67 0 = A 67 0 → K (some (.int (-1000000003))) (SH, cnt1 A 2, B)) (k0 : ¬ (A 67 0 = 0 ∨ A 67 0 = 0) → A 67 0 = A 67 0 → ¬ (RW (nI k) f n ∧ RW (nI k') g n) → K (some (.int (-1000000001))) (SH, cnt1 A 0, B)) (k1 : ¬ (A 67 0 = 0 ∨ A 67 0 = 0) → A 67 0 = A 67 0 → ∀ i j c, f = nI i → g = nI j → n = nI c → i + c ≤ k → j + c ≤ k' → RW (nI k) f n → RW (nI k') g n → K (some (.int n)) (SH, A, va_up B 68 (va_cpy (B 68) (B 68) i j c))) : mCall E (d + 2) nX8_copy [.ref 0, .int (nI 1), .int f, .int (nI 1), .int g, .int n] (SH, A, B) K := by
  refine mCall_sem MX8_copy rfl rfl (Or.inl ⟨rfl, rfl, rfl⟩) rfl (mSem_wp MX8_copy rfl aX8_copy 300 [] (fun cl ax hcl hax => ?_))
  refine hcl _ _ _ _ (w_X8_isSheet (fun _ _ => ?_) (fun c0 => absurd (by decide) c0))
  refine ⟨fun h9 => absurd h9 (by decide), fun _ => ?_⟩
  refine hcl _ _ _ _ (w_X8_isSheet (fun _ _ => ?_) (fun c0 => absurd (by decide) c0))
  refine ⟨fun _ => ?_, fun h9 => absurd h9 (by decide)⟩
  refine ⟨vl 1 rfl rfl, ?_⟩
  refine ⟨vl 1 rfl rfl, ?_⟩
  refine hcl _ _ _ _ (w_miss67 (fun c => ?_) (fun c => ?_))
  · refine ⟨fun _ => ?_, fun h9 => absurd h9 (by decide)⟩
    exact hcl _ _ _ _ (w_X8_refuse 5 (by decide) (by decide) (k5 (Or.inl c)))
  · refine ⟨fun h9 => absurd h9 (by decide), fun _ => ?_⟩
    refine hcl _ _ _ _ (w_miss67 (fun c2 => ?_) (fun c2 => ?_))
    · refine ⟨fun h9 => absurd h9 (by decide), fun _ => ?_⟩
      exact hcl _ _ _ _ (w_X8_refuse 5 (by decide) (by decide) (k5 (Or.inr c2)))
    · refine ⟨fun _ => ?_, fun h9 => absurd h9 (by decide)⟩
      have cn : ¬ (A 67 0 = 0 ∨ A 67 0 = 0) := fun q => q.elim c c2
      refine ⟨fun (c3 : A 67 0 = A 67 0) => ?_, fun (c3 : ¬ A 67 0 = A 67 0) => ?_⟩
      · refine hcl _ _ _ _ (w_hasRow67 ha (fun c4 => ?_) (fun c4 => ?_))
        · refine ⟨fun h9 => absurd h9 (by decide), fun _ => ?_⟩
          refine hcl _ _ _ _ (w_hasRow67 hb (fun c5 => ?_) (fun c5 => ?_))
          · refine ⟨fun _ => ?_, fun h9 => absurd h9 (by decide)⟩
            obtain ⟨i, c, e1, e2, e3⟩ := RW_n hk c4
            obtain ⟨j, c', e4, e5, e6⟩ := RW_n hk' c5
            have : c' = c := by
              rw [e2] at e5
              exact ((nI_eq (by omega) (by omega)).mp e5).symm
            subst this
            have this := k1 cn c3 i j c' e1 e4 e2 e3 e6 c4 c5
            subst e1
            subst e2
            subst e4
            have q1 : (nI i).toNatClampNeg = i := nI_clamp (by omega)
            have q2 : (nI j).toNatClampNeg = j := nI_clamp (by omega)
            have q3 : (nI c').toNatClampNeg = c' := nI_clamp (by omega)
            refine ⟨nI_pos (by omega), nI_pos (by omega), nI_pos (by omega), by rw [q1, q3]; show _ ≤ 40; omega, by rw [q2, q3]; show _ ≤ 40; omega, ?_⟩
            rw [q1, q2, q3]
            exact this
          · refine ⟨fun h9 => absurd h9 (by decide), fun _ => ?_⟩
            exact hcl _ _ _ _ (w_X8_refuse 0 (by decide) (by decide) (k0 cn c3 (fun q => c5 q.2)))
        · refine ⟨fun _ => ?_, fun h9 => absurd h9 (by decide)⟩
          exact hcl _ _ _ _ (w_X8_refuse 0 (by decide) (by decide) (k0 cn c3 (fun q => c4 q.1)))
      · exact hcl _ _ _ _ (w_X8_refuse 2 (by decide) (by decide) (k2 cn c3))
theorem w_X8_copy12 {E : ME} {d : Nat} {f g n : Int32} {k k' : Nat} {A : Nat → Nat → Int32} {B : Nat → Nat → Int64} {K : MK} (hk : k ≤ 40) (ha : A 67 1 = nI k) (hk' : k' ≤ 40) (hb : A 69 1 = nI k') (k5 : (A 67 0 = 0 ∨ A 69 0 = 0) → K (some (.int (-1000000006))) (SH, cnt1 A 5, B)) (k2 : ¬ (A 67 0 = 0 ∨ A 69 0 = 0) → ¬ A 67 0 = A 69 0 → K (some (.int (-1000000003))) (SH, cnt1 A 2, B)) (k0 : ¬ (A 67 0 = 0 ∨ A 69 0 = 0) → A 67 0 = A 69 0 → ¬ (RW (nI k) f n ∧ RW (nI k') g n) → K (some (.int (-1000000001))) (SH, cnt1 A 0, B)) (k1 : ¬ (A 67 0 = 0 ∨ A 69 0 = 0) → A 67 0 = A 69 0 → ∀ i j c, f = nI i → g = nI j → n = nI c → i + c ≤ k → j + c ≤ k' → RW (nI k) f n → RW (nI k') g n → K (some (.int n)) (SH, A, va_up B 70 (va_cpy (B 68) (B 70) i j c))) : mCall E (d + 2) nX8_copy [.ref 0, .int (nI 1), .int f, .int (nI 2), .int g, .int n] (SH, A, B) K := by
  refine mCall_sem MX8_copy rfl rfl (Or.inl ⟨rfl, rfl, rfl⟩) rfl (mSem_wp MX8_copy rfl aX8_copy 300 [] (fun cl ax hcl hax => ?_))
  refine hcl _ _ _ _ (w_X8_isSheet (fun _ _ => ?_) (fun c0 => absurd (by decide) c0))
  refine ⟨fun h9 => absurd h9 (by decide), fun _ => ?_⟩
  refine hcl _ _ _ _ (w_X8_isSheet (fun _ _ => ?_) (fun c0 => absurd (by decide) c0))
  refine ⟨fun _ => ?_, fun h9 => absurd h9 (by decide)⟩
  refine ⟨vl 1 rfl rfl, ?_⟩
  refine ⟨vl 2 rfl rfl, ?_⟩
  refine hcl _ _ _ _ (w_miss67 (fun c => ?_) (fun c => ?_))
  · refine ⟨fun _ => ?_, fun h9 => absurd h9 (by decide)⟩
    exact hcl _ _ _ _ (w_X8_refuse 5 (by decide) (by decide) (k5 (Or.inl c)))
  · refine ⟨fun h9 => absurd h9 (by decide), fun _ => ?_⟩
    refine hcl _ _ _ _ (w_miss69 (fun c2 => ?_) (fun c2 => ?_))
    · refine ⟨fun h9 => absurd h9 (by decide), fun _ => ?_⟩
      exact hcl _ _ _ _ (w_X8_refuse 5 (by decide) (by decide) (k5 (Or.inr c2)))
    · refine ⟨fun _ => ?_, fun h9 => absurd h9 (by decide)⟩
      have cn : ¬ (A 67 0 = 0 ∨ A 69 0 = 0) := fun q => q.elim c c2
      refine ⟨fun (c3 : A 67 0 = A 69 0) => ?_, fun (c3 : ¬ A 67 0 = A 69 0) => ?_⟩
      · refine hcl _ _ _ _ (w_hasRow67 ha (fun c4 => ?_) (fun c4 => ?_))
        · refine ⟨fun h9 => absurd h9 (by decide), fun _ => ?_⟩
          refine hcl _ _ _ _ (w_hasRow69 hb (fun c5 => ?_) (fun c5 => ?_))
          · refine ⟨fun _ => ?_, fun h9 => absurd h9 (by decide)⟩
            obtain ⟨i, c, e1, e2, e3⟩ := RW_n hk c4
            obtain ⟨j, c', e4, e5, e6⟩ := RW_n hk' c5
            have : c' = c := by
              rw [e2] at e5
              exact ((nI_eq (by omega) (by omega)).mp e5).symm
            subst this
            have this := k1 cn c3 i j c' e1 e4 e2 e3 e6 c4 c5
            subst e1
            subst e2
            subst e4
            have q1 : (nI i).toNatClampNeg = i := nI_clamp (by omega)
            have q2 : (nI j).toNatClampNeg = j := nI_clamp (by omega)
            have q3 : (nI c').toNatClampNeg = c' := nI_clamp (by omega)
            refine ⟨nI_pos (by omega), nI_pos (by omega), nI_pos (by omega), by rw [q1, q3]; show _ ≤ 40; omega, by rw [q2, q3]; show _ ≤ 40; omega, ?_⟩
            rw [q1, q2, q3]
            exact this
          · refine ⟨fun h9 => absurd h9 (by decide), fun _ => ?_⟩
            exact hcl _ _ _ _ (w_X8_refuse 0 (by decide) (by decide) (k0 cn c3 (fun q => c5 q.2)))
        · refine ⟨fun _ => ?_, fun h9 => absurd h9 (by decide)⟩
          exact hcl _ _ _ _ (w_X8_refuse 0 (by decide) (by decide) (k0 cn c3 (fun q => c4 q.1)))
      · exact hcl _ _ _ _ (w_X8_refuse 2 (by decide) (by decide) (k2 cn c3))
theorem w_X8_copy13 {E : ME} {d : Nat} {f g n : Int32} {k k' : Nat} {A : Nat → Nat → Int32} {B : Nat → Nat → Int64} {K : MK} (hk : k ≤ 40) (ha : A 67 1 = nI k) (hk' : k' ≤ 40) (hb : A 71 1 = nI k') (k5 : (A 67 0 = 0 ∨ A 71 0 = 0) → K (some (.int (-1000000006))) (SH, cnt1 A 5, B)) (k2 : ¬ (A 67 0 = 0 ∨ A 71 0 = 0) → ¬ A 67 0 = A 71 0 → K (some (.int (-1000000003))) (SH, cnt1 A 2, B)) (k0 : ¬ (A 67 0 = 0 ∨ A 71 0 = 0) → A 67 0 = A 71 0 → ¬ (RW (nI k) f n ∧ RW (nI k') g n) → K (some (.int (-1000000001))) (SH, cnt1 A 0, B)) (k1 : ¬ (A 67 0 = 0 ∨ A 71 0 = 0) → A 67 0 = A 71 0 → ∀ i j c, f = nI i → g = nI j → n = nI c → i + c ≤ k → j + c ≤ k' → RW (nI k) f n → RW (nI k') g n → K (some (.int n)) (SH, A, va_up B 72 (va_cpy (B 68) (B 72) i j c))) : mCall E (d + 2) nX8_copy [.ref 0, .int (nI 1), .int f, .int (nI 3), .int g, .int n] (SH, A, B) K := by
  refine mCall_sem MX8_copy rfl rfl (Or.inl ⟨rfl, rfl, rfl⟩) rfl (mSem_wp MX8_copy rfl aX8_copy 300 [] (fun cl ax hcl hax => ?_))
  refine hcl _ _ _ _ (w_X8_isSheet (fun _ _ => ?_) (fun c0 => absurd (by decide) c0))
  refine ⟨fun h9 => absurd h9 (by decide), fun _ => ?_⟩
  refine hcl _ _ _ _ (w_X8_isSheet (fun _ _ => ?_) (fun c0 => absurd (by decide) c0))
  refine ⟨fun _ => ?_, fun h9 => absurd h9 (by decide)⟩
  refine ⟨vl 1 rfl rfl, ?_⟩
  refine ⟨vl 3 rfl rfl, ?_⟩
  refine hcl _ _ _ _ (w_miss67 (fun c => ?_) (fun c => ?_))
  · refine ⟨fun _ => ?_, fun h9 => absurd h9 (by decide)⟩
    exact hcl _ _ _ _ (w_X8_refuse 5 (by decide) (by decide) (k5 (Or.inl c)))
  · refine ⟨fun h9 => absurd h9 (by decide), fun _ => ?_⟩
    refine hcl _ _ _ _ (w_miss71 (fun c2 => ?_) (fun c2 => ?_))
    · refine ⟨fun h9 => absurd h9 (by decide), fun _ => ?_⟩
      exact hcl _ _ _ _ (w_X8_refuse 5 (by decide) (by decide) (k5 (Or.inr c2)))
    · refine ⟨fun _ => ?_, fun h9 => absurd h9 (by decide)⟩
      have cn : ¬ (A 67 0 = 0 ∨ A 71 0 = 0) := fun q => q.elim c c2
      refine ⟨fun (c3 : A 67 0 = A 71 0) => ?_, fun (c3 : ¬ A 67 0 = A 71 0) => ?_⟩
      · refine hcl _ _ _ _ (w_hasRow67 ha (fun c4 => ?_) (fun c4 => ?_))
        · refine ⟨fun h9 => absurd h9 (by decide), fun _ => ?_⟩
          refine hcl _ _ _ _ (w_hasRow71 hb (fun c5 => ?_) (fun c5 => ?_))
          · refine ⟨fun _ => ?_, fun h9 => absurd h9 (by decide)⟩
            obtain ⟨i, c, e1, e2, e3⟩ := RW_n hk c4
            obtain ⟨j, c', e4, e5, e6⟩ := RW_n hk' c5
            have : c' = c := by
              rw [e2] at e5
              exact ((nI_eq (by omega) (by omega)).mp e5).symm
            subst this
            have this := k1 cn c3 i j c' e1 e4 e2 e3 e6 c4 c5
            subst e1
            subst e2
            subst e4
            have q1 : (nI i).toNatClampNeg = i := nI_clamp (by omega)
            have q2 : (nI j).toNatClampNeg = j := nI_clamp (by omega)
            have q3 : (nI c').toNatClampNeg = c' := nI_clamp (by omega)
            refine ⟨nI_pos (by omega), nI_pos (by omega), nI_pos (by omega), by rw [q1, q3]; show _ ≤ 40; omega, by rw [q2, q3]; show _ ≤ 40; omega, ?_⟩
            rw [q1, q2, q3]
            exact this
          · refine ⟨fun h9 => absurd h9 (by decide), fun _ => ?_⟩
            exact hcl _ _ _ _ (w_X8_refuse 0 (by decide) (by decide) (k0 cn c3 (fun q => c5 q.2)))
        · refine ⟨fun _ => ?_, fun h9 => absurd h9 (by decide)⟩
          exact hcl _ _ _ _ (w_X8_refuse 0 (by decide) (by decide) (k0 cn c3 (fun q => c4 q.1)))
      · exact hcl _ _ _ _ (w_X8_refuse 2 (by decide) (by decide) (k2 cn c3))
theorem w_X8_copy20 {E : ME} {d : Nat} {f g n : Int32} {k k' : Nat} {A : Nat → Nat → Int32} {B : Nat → Nat → Int64} {K : MK} (hk : k ≤ 40) (ha : A 69 1 = nI k) (hk' : k' ≤ 40) (hb : A 65 1 = nI k') (k5 : (A 69 0 = 0 ∨ A 65 0 = 0) → K (some (.int (-1000000006))) (SH, cnt1 A 5, B)) (k2 : ¬ (A 69 0 = 0 ∨ A 65 0 = 0) → ¬ A 69 0 = A 65 0 → K (some (.int (-1000000003))) (SH, cnt1 A 2, B)) (k0 : ¬ (A 69 0 = 0 ∨ A 65 0 = 0) → A 69 0 = A 65 0 → ¬ (RW (nI k) f n ∧ RW (nI k') g n) → K (some (.int (-1000000001))) (SH, cnt1 A 0, B)) (k1 : ¬ (A 69 0 = 0 ∨ A 65 0 = 0) → A 69 0 = A 65 0 → ∀ i j c, f = nI i → g = nI j → n = nI c → i + c ≤ k → j + c ≤ k' → RW (nI k) f n → RW (nI k') g n → K (some (.int n)) (SH, A, va_up B 66 (va_cpy (B 70) (B 66) i j c))) : mCall E (d + 2) nX8_copy [.ref 0, .int (nI 2), .int f, .int (nI 0), .int g, .int n] (SH, A, B) K := by
  refine mCall_sem MX8_copy rfl rfl (Or.inl ⟨rfl, rfl, rfl⟩) rfl (mSem_wp MX8_copy rfl aX8_copy 300 [] (fun cl ax hcl hax => ?_))
  refine hcl _ _ _ _ (w_X8_isSheet (fun _ _ => ?_) (fun c0 => absurd (by decide) c0))
  refine ⟨fun h9 => absurd h9 (by decide), fun _ => ?_⟩
  refine hcl _ _ _ _ (w_X8_isSheet (fun _ _ => ?_) (fun c0 => absurd (by decide) c0))
  refine ⟨fun _ => ?_, fun h9 => absurd h9 (by decide)⟩
  refine ⟨vl 2 rfl rfl, ?_⟩
  refine ⟨vl 0 rfl rfl, ?_⟩
  refine hcl _ _ _ _ (w_miss69 (fun c => ?_) (fun c => ?_))
  · refine ⟨fun _ => ?_, fun h9 => absurd h9 (by decide)⟩
    exact hcl _ _ _ _ (w_X8_refuse 5 (by decide) (by decide) (k5 (Or.inl c)))
  · refine ⟨fun h9 => absurd h9 (by decide), fun _ => ?_⟩
    refine hcl _ _ _ _ (w_miss65 (fun c2 => ?_) (fun c2 => ?_))
    · refine ⟨fun h9 => absurd h9 (by decide), fun _ => ?_⟩
      exact hcl _ _ _ _ (w_X8_refuse 5 (by decide) (by decide) (k5 (Or.inr c2)))
    · refine ⟨fun _ => ?_, fun h9 => absurd h9 (by decide)⟩
      have cn : ¬ (A 69 0 = 0 ∨ A 65 0 = 0) := fun q => q.elim c c2
      refine ⟨fun (c3 : A 69 0 = A 65 0) => ?_, fun (c3 : ¬ A 69 0 = A 65 0) => ?_⟩
      · refine hcl _ _ _ _ (w_hasRow69 ha (fun c4 => ?_) (fun c4 => ?_))
        · refine ⟨fun h9 => absurd h9 (by decide), fun _ => ?_⟩
          refine hcl _ _ _ _ (w_hasRow65 hb (fun c5 => ?_) (fun c5 => ?_))
          · refine ⟨fun _ => ?_, fun h9 => absurd h9 (by decide)⟩
            obtain ⟨i, c, e1, e2, e3⟩ := RW_n hk c4
            obtain ⟨j, c', e4, e5, e6⟩ := RW_n hk' c5
            have : c' = c := by
              rw [e2] at e5
              exact ((nI_eq (by omega) (by omega)).mp e5).symm
            subst this
            have this := k1 cn c3 i j c' e1 e4 e2 e3 e6 c4 c5
            subst e1
            subst e2
            subst e4
            have q1 : (nI i).toNatClampNeg = i := nI_clamp (by omega)
            have q2 : (nI j).toNatClampNeg = j := nI_clamp (by omega)
            have q3 : (nI c').toNatClampNeg = c' := nI_clamp (by omega)
            refine ⟨nI_pos (by omega), nI_pos (by omega), nI_pos (by omega), by rw [q1, q3]; show _ ≤ 40; omega, by rw [q2, q3]; show _ ≤ 40; omega, ?_⟩
            rw [q1, q2, q3]
            exact this
          · refine ⟨fun h9 => absurd h9 (by decide), fun _ => ?_⟩
            exact hcl _ _ _ _ (w_X8_refuse 0 (by decide) (by decide) (k0 cn c3 (fun q => c5 q.2)))
        · refine ⟨fun _ => ?_, fun h9 => absurd h9 (by decide)⟩
          exact hcl _ _ _ _ (w_X8_refuse 0 (by decide) (by decide) (k0 cn c3 (fun q => c4 q.1)))
      · exact hcl _ _ _ _ (w_X8_refuse 2 (by decide) (by decide) (k2 cn c3))
theorem w_X8_copy21 {E : ME} {d : Nat} {f g n : Int32} {k k' : Nat} {A : Nat → Nat → Int32} {B : Nat → Nat → Int64} {K : MK} (hk : k ≤ 40) (ha : A 69 1 = nI k) (hk' : k' ≤ 40) (hb : A 67 1 = nI k') (k5 : (A 69 0 = 0 ∨ A 67 0 = 0) → K (some (.int (-1000000006))) (SH, cnt1 A 5, B)) (k2 : ¬ (A 69 0 = 0 ∨ A 67 0 = 0) → ¬ A 69 0 = A 67 0 → K (some (.int (-1000000003))) (SH, cnt1 A 2, B)) (k0 : ¬ (A 69 0 = 0 ∨ A 67 0 = 0) → A 69 0 = A 67 0 → ¬ (RW (nI k) f n ∧ RW (nI k') g n) → K (some (.int (-1000000001))) (SH, cnt1 A 0, B)) (k1 : ¬ (A 69 0 = 0 ∨ A 67 0 = 0) → A 69 0 = A 67 0 → ∀ i j c, f = nI i → g = nI j → n = nI c → i + c ≤ k → j + c ≤ k' → RW (nI k) f n → RW (nI k') g n → K (some (.int n)) (SH, A, va_up B 68 (va_cpy (B 70) (B 68) i j c))) : mCall E (d + 2) nX8_copy [.ref 0, .int (nI 2), .int f, .int (nI 1), .int g, .int n] (SH, A, B) K := by
  refine mCall_sem MX8_copy rfl rfl (Or.inl ⟨rfl, rfl, rfl⟩) rfl (mSem_wp MX8_copy rfl aX8_copy 300 [] (fun cl ax hcl hax => ?_))
  refine hcl _ _ _ _ (w_X8_isSheet (fun _ _ => ?_) (fun c0 => absurd (by decide) c0))
  refine ⟨fun h9 => absurd h9 (by decide), fun _ => ?_⟩
  refine hcl _ _ _ _ (w_X8_isSheet (fun _ _ => ?_) (fun c0 => absurd (by decide) c0))
  refine ⟨fun _ => ?_, fun h9 => absurd h9 (by decide)⟩
  refine ⟨vl 2 rfl rfl, ?_⟩
  refine ⟨vl 1 rfl rfl, ?_⟩
  refine hcl _ _ _ _ (w_miss69 (fun c => ?_) (fun c => ?_))
  · refine ⟨fun _ => ?_, fun h9 => absurd h9 (by decide)⟩
    exact hcl _ _ _ _ (w_X8_refuse 5 (by decide) (by decide) (k5 (Or.inl c)))
  · refine ⟨fun h9 => absurd h9 (by decide), fun _ => ?_⟩
    refine hcl _ _ _ _ (w_miss67 (fun c2 => ?_) (fun c2 => ?_))
    · refine ⟨fun h9 => absurd h9 (by decide), fun _ => ?_⟩
      exact hcl _ _ _ _ (w_X8_refuse 5 (by decide) (by decide) (k5 (Or.inr c2)))
    · refine ⟨fun _ => ?_, fun h9 => absurd h9 (by decide)⟩
      have cn : ¬ (A 69 0 = 0 ∨ A 67 0 = 0) := fun q => q.elim c c2
      refine ⟨fun (c3 : A 69 0 = A 67 0) => ?_, fun (c3 : ¬ A 69 0 = A 67 0) => ?_⟩
      · refine hcl _ _ _ _ (w_hasRow69 ha (fun c4 => ?_) (fun c4 => ?_))
        · refine ⟨fun h9 => absurd h9 (by decide), fun _ => ?_⟩
          refine hcl _ _ _ _ (w_hasRow67 hb (fun c5 => ?_) (fun c5 => ?_))
          · refine ⟨fun _ => ?_, fun h9 => absurd h9 (by decide)⟩
            obtain ⟨i, c, e1, e2, e3⟩ := RW_n hk c4
            obtain ⟨j, c', e4, e5, e6⟩ := RW_n hk' c5
            have : c' = c := by
              rw [e2] at e5
              exact ((nI_eq (by omega) (by omega)).mp e5).symm
            subst this
            have this := k1 cn c3 i j c' e1 e4 e2 e3 e6 c4 c5
            subst e1
            subst e2
            subst e4
            have q1 : (nI i).toNatClampNeg = i := nI_clamp (by omega)
            have q2 : (nI j).toNatClampNeg = j := nI_clamp (by omega)
            have q3 : (nI c').toNatClampNeg = c' := nI_clamp (by omega)
            refine ⟨nI_pos (by omega), nI_pos (by omega), nI_pos (by omega), by rw [q1, q3]; show _ ≤ 40; omega, by rw [q2, q3]; show _ ≤ 40; omega, ?_⟩
            rw [q1, q2, q3]
            exact this
          · refine ⟨fun h9 => absurd h9 (by decide), fun _ => ?_⟩
            exact hcl _ _ _ _ (w_X8_refuse 0 (by decide) (by decide) (k0 cn c3 (fun q => c5 q.2)))
        · refine ⟨fun _ => ?_, fun h9 => absurd h9 (by decide)⟩
          exact hcl _ _ _ _ (w_X8_refuse 0 (by decide) (by decide) (k0 cn c3 (fun q => c4 q.1)))
      · exact hcl _ _ _ _ (w_X8_refuse 2 (by decide) (by decide) (k2 cn c3))
theorem w_X8_copy22 {E : ME} {d : Nat} {f g n : Int32} {k k' : Nat} {A : Nat → Nat → Int32} {B : Nat → Nat → Int64} {K : MK} (hk : k ≤ 40) (ha : A 69 1 = nI k) (hk' : k' ≤ 40) (hb : A 69 1 = nI k') (k5 : (A 69 0 = 0 ∨ A 69 0 = 0) → K (some (.int (-1000000006))) (SH, cnt1 A 5, B)) (k2 : ¬ (A 69 0 = 0 ∨ A 69 0 = 0) → ¬ A 69 0 = A 69 0 → K (some (.int (-1000000003))) (SH, cnt1 A 2, B)) (k0 : ¬ (A 69 0 = 0 ∨ A 69 0 = 0) → A 69 0 = A 69 0 → ¬ (RW (nI k) f n ∧ RW (nI k') g n) → K (some (.int (-1000000001))) (SH, cnt1 A 0, B)) (k1 : ¬ (A 69 0 = 0 ∨ A 69 0 = 0) → A 69 0 = A 69 0 → ∀ i j c, f = nI i → g = nI j → n = nI c → i + c ≤ k → j + c ≤ k' → RW (nI k) f n → RW (nI k') g n → K (some (.int n)) (SH, A, va_up B 70 (va_cpy (B 70) (B 70) i j c))) : mCall E (d + 2) nX8_copy [.ref 0, .int (nI 2), .int f, .int (nI 2), .int g, .int n] (SH, A, B) K := by
  refine mCall_sem MX8_copy rfl rfl (Or.inl ⟨rfl, rfl, rfl⟩) rfl (mSem_wp MX8_copy rfl aX8_copy 300 [] (fun cl ax hcl hax => ?_))
  refine hcl _ _ _ _ (w_X8_isSheet (fun _ _ => ?_) (fun c0 => absurd (by decide) c0))
  refine ⟨fun h9 => absurd h9 (by decide), fun _ => ?_⟩
  refine hcl _ _ _ _ (w_X8_isSheet (fun _ _ => ?_) (fun c0 => absurd (by decide) c0))
  refine ⟨fun _ => ?_, fun h9 => absurd h9 (by decide)⟩
  refine ⟨vl 2 rfl rfl, ?_⟩
  refine ⟨vl 2 rfl rfl, ?_⟩
  refine hcl _ _ _ _ (w_miss69 (fun c => ?_) (fun c => ?_))
  · refine ⟨fun _ => ?_, fun h9 => absurd h9 (by decide)⟩
    exact hcl _ _ _ _ (w_X8_refuse 5 (by decide) (by decide) (k5 (Or.inl c)))
  · refine ⟨fun h9 => absurd h9 (by decide), fun _ => ?_⟩
    refine hcl _ _ _ _ (w_miss69 (fun c2 => ?_) (fun c2 => ?_))
    · refine ⟨fun h9 => absurd h9 (by decide), fun _ => ?_⟩
      exact hcl _ _ _ _ (w_X8_refuse 5 (by decide) (by decide) (k5 (Or.inr c2)))
    · refine ⟨fun _ => ?_, fun h9 => absurd h9 (by decide)⟩
      have cn : ¬ (A 69 0 = 0 ∨ A 69 0 = 0) := fun q => q.elim c c2
      refine ⟨fun (c3 : A 69 0 = A 69 0) => ?_, fun (c3 : ¬ A 69 0 = A 69 0) => ?_⟩
      · refine hcl _ _ _ _ (w_hasRow69 ha (fun c4 => ?_) (fun c4 => ?_))
        · refine ⟨fun h9 => absurd h9 (by decide), fun _ => ?_⟩
          refine hcl _ _ _ _ (w_hasRow69 hb (fun c5 => ?_) (fun c5 => ?_))
          · refine ⟨fun _ => ?_, fun h9 => absurd h9 (by decide)⟩
            obtain ⟨i, c, e1, e2, e3⟩ := RW_n hk c4
            obtain ⟨j, c', e4, e5, e6⟩ := RW_n hk' c5
            have : c' = c := by
              rw [e2] at e5
              exact ((nI_eq (by omega) (by omega)).mp e5).symm
            subst this
            have this := k1 cn c3 i j c' e1 e4 e2 e3 e6 c4 c5
            subst e1
            subst e2
            subst e4
            have q1 : (nI i).toNatClampNeg = i := nI_clamp (by omega)
            have q2 : (nI j).toNatClampNeg = j := nI_clamp (by omega)
            have q3 : (nI c').toNatClampNeg = c' := nI_clamp (by omega)
            refine ⟨nI_pos (by omega), nI_pos (by omega), nI_pos (by omega), by rw [q1, q3]; show _ ≤ 40; omega, by rw [q2, q3]; show _ ≤ 40; omega, ?_⟩
            rw [q1, q2, q3]
            exact this
          · refine ⟨fun h9 => absurd h9 (by decide), fun _ => ?_⟩
            exact hcl _ _ _ _ (w_X8_refuse 0 (by decide) (by decide) (k0 cn c3 (fun q => c5 q.2)))
        · refine ⟨fun _ => ?_, fun h9 => absurd h9 (by decide)⟩
          exact hcl _ _ _ _ (w_X8_refuse 0 (by decide) (by decide) (k0 cn c3 (fun q => c4 q.1)))
      · exact hcl _ _ _ _ (w_X8_refuse 2 (by decide) (by decide) (k2 cn c3))
theorem w_X8_copy23 {E : ME} {d : Nat} {f g n : Int32} {k k' : Nat} {A : Nat → Nat → Int32} {B : Nat → Nat → Int64} {K : MK} (hk : k ≤ 40) (ha : A 69 1 = nI k) (hk' : k' ≤ 40) (hb : A 71 1 = nI k') (k5 : (A 69 0 = 0 ∨ A 71 0 = 0) → K (some (.int (-1000000006))) (SH, cnt1 A 5, B)) (k2 : ¬ (A 69 0 = 0 ∨ A 71 0 = 0) → ¬ A 69 0 = A 71 0 → K (some (.int (-1000000003))) (SH, cnt1 A 2, B)) (k0 : ¬ (A 69 0 = 0 ∨ A 71 0 = 0) → A 69 0 = A 71 0 → ¬ (RW (nI k) f n ∧ RW (nI k') g n) → K (some (.int (-1000000001))) (SH, cnt1 A 0, B)) (k1 : ¬ (A 69 0 = 0 ∨ A 71 0 = 0) → A 69 0 = A 71 0 → ∀ i j c, f = nI i → g = nI j → n = nI c → i + c ≤ k → j + c ≤ k' → RW (nI k) f n → RW (nI k') g n → K (some (.int n)) (SH, A, va_up B 72 (va_cpy (B 70) (B 72) i j c))) : mCall E (d + 2) nX8_copy [.ref 0, .int (nI 2), .int f, .int (nI 3), .int g, .int n] (SH, A, B) K := by
  refine mCall_sem MX8_copy rfl rfl (Or.inl ⟨rfl, rfl, rfl⟩) rfl (mSem_wp MX8_copy rfl aX8_copy 300 [] (fun cl ax hcl hax => ?_))
  refine hcl _ _ _ _ (w_X8_isSheet (fun _ _ => ?_) (fun c0 => absurd (by decide) c0))
  refine ⟨fun h9 => absurd h9 (by decide), fun _ => ?_⟩
  refine hcl _ _ _ _ (w_X8_isSheet (fun _ _ => ?_) (fun c0 => absurd (by decide) c0))
  refine ⟨fun _ => ?_, fun h9 => absurd h9 (by decide)⟩
  refine ⟨vl 2 rfl rfl, ?_⟩
  refine ⟨vl 3 rfl rfl, ?_⟩
  refine hcl _ _ _ _ (w_miss69 (fun c => ?_) (fun c => ?_))
  · refine ⟨fun _ => ?_, fun h9 => absurd h9 (by decide)⟩
    exact hcl _ _ _ _ (w_X8_refuse 5 (by decide) (by decide) (k5 (Or.inl c)))
  · refine ⟨fun h9 => absurd h9 (by decide), fun _ => ?_⟩
    refine hcl _ _ _ _ (w_miss71 (fun c2 => ?_) (fun c2 => ?_))
    · refine ⟨fun h9 => absurd h9 (by decide), fun _ => ?_⟩
      exact hcl _ _ _ _ (w_X8_refuse 5 (by decide) (by decide) (k5 (Or.inr c2)))
    · refine ⟨fun _ => ?_, fun h9 => absurd h9 (by decide)⟩
      have cn : ¬ (A 69 0 = 0 ∨ A 71 0 = 0) := fun q => q.elim c c2
      refine ⟨fun (c3 : A 69 0 = A 71 0) => ?_, fun (c3 : ¬ A 69 0 = A 71 0) => ?_⟩
      · refine hcl _ _ _ _ (w_hasRow69 ha (fun c4 => ?_) (fun c4 => ?_))
        · refine ⟨fun h9 => absurd h9 (by decide), fun _ => ?_⟩
          refine hcl _ _ _ _ (w_hasRow71 hb (fun c5 => ?_) (fun c5 => ?_))
          · refine ⟨fun _ => ?_, fun h9 => absurd h9 (by decide)⟩
            obtain ⟨i, c, e1, e2, e3⟩ := RW_n hk c4
            obtain ⟨j, c', e4, e5, e6⟩ := RW_n hk' c5
            have : c' = c := by
              rw [e2] at e5
              exact ((nI_eq (by omega) (by omega)).mp e5).symm
            subst this
            have this := k1 cn c3 i j c' e1 e4 e2 e3 e6 c4 c5
            subst e1
            subst e2
            subst e4
            have q1 : (nI i).toNatClampNeg = i := nI_clamp (by omega)
            have q2 : (nI j).toNatClampNeg = j := nI_clamp (by omega)
            have q3 : (nI c').toNatClampNeg = c' := nI_clamp (by omega)
            refine ⟨nI_pos (by omega), nI_pos (by omega), nI_pos (by omega), by rw [q1, q3]; show _ ≤ 40; omega, by rw [q2, q3]; show _ ≤ 40; omega, ?_⟩
            rw [q1, q2, q3]
            exact this
          · refine ⟨fun h9 => absurd h9 (by decide), fun _ => ?_⟩
            exact hcl _ _ _ _ (w_X8_refuse 0 (by decide) (by decide) (k0 cn c3 (fun q => c5 q.2)))
        · refine ⟨fun _ => ?_, fun h9 => absurd h9 (by decide)⟩
          exact hcl _ _ _ _ (w_X8_refuse 0 (by decide) (by decide) (k0 cn c3 (fun q => c4 q.1)))
      · exact hcl _ _ _ _ (w_X8_refuse 2 (by decide) (by decide) (k2 cn c3))
theorem w_X8_copy30 {E : ME} {d : Nat} {f g n : Int32} {k k' : Nat} {A : Nat → Nat → Int32} {B : Nat → Nat → Int64} {K : MK} (hk : k ≤ 40) (ha : A 71 1 = nI k) (hk' : k' ≤ 40) (hb : A 65 1 = nI k') (k5 : (A 71 0 = 0 ∨ A 65 0 = 0) → K (some (.int (-1000000006))) (SH, cnt1 A 5, B)) (k2 : ¬ (A 71 0 = 0 ∨ A 65 0 = 0) → ¬ A 71 0 = A 65 0 → K (some (.int (-1000000003))) (SH, cnt1 A 2, B)) (k0 : ¬ (A 71 0 = 0 ∨ A 65 0 = 0) → A 71 0 = A 65 0 → ¬ (RW (nI k) f n ∧ RW (nI k') g n) → K (some (.int (-1000000001))) (SH, cnt1 A 0, B)) (k1 : ¬ (A 71 0 = 0 ∨ A 65 0 = 0) → A 71 0 = A 65 0 → ∀ i j c, f = nI i → g = nI j → n = nI c → i + c ≤ k → j + c ≤ k' → RW (nI k) f n → RW (nI k') g n → K (some (.int n)) (SH, A, va_up B 66 (va_cpy (B 72) (B 66) i j c))) : mCall E (d + 2) nX8_copy [.ref 0, .int (nI 3), .int f, .int (nI 0), .int g, .int n] (SH, A, B) K := by
  refine mCall_sem MX8_copy rfl rfl (Or.inl ⟨rfl, rfl, rfl⟩) rfl (mSem_wp MX8_copy rfl aX8_copy 300 [] (fun cl ax hcl hax => ?_))
  refine hcl _ _ _ _ (w_X8_isSheet (fun _ _ => ?_) (fun c0 => absurd (by decide) c0))
  refine ⟨fun h9 => absurd h9 (by decide), fun _ => ?_⟩
  refine hcl _ _ _ _ (w_X8_isSheet (fun _ _ => ?_) (fun c0 => absurd (by decide) c0))
  refine ⟨fun _ => ?_, fun h9 => absurd h9 (by decide)⟩
  refine ⟨vl 3 rfl rfl, ?_⟩
  refine ⟨vl 0 rfl rfl, ?_⟩
  refine hcl _ _ _ _ (w_miss71 (fun c => ?_) (fun c => ?_))
  · refine ⟨fun _ => ?_, fun h9 => absurd h9 (by decide)⟩
    exact hcl _ _ _ _ (w_X8_refuse 5 (by decide) (by decide) (k5 (Or.inl c)))
  · refine ⟨fun h9 => absurd h9 (by decide), fun _ => ?_⟩
    refine hcl _ _ _ _ (w_miss65 (fun c2 => ?_) (fun c2 => ?_))
    · refine ⟨fun h9 => absurd h9 (by decide), fun _ => ?_⟩
      exact hcl _ _ _ _ (w_X8_refuse 5 (by decide) (by decide) (k5 (Or.inr c2)))
    · refine ⟨fun _ => ?_, fun h9 => absurd h9 (by decide)⟩
      have cn : ¬ (A 71 0 = 0 ∨ A 65 0 = 0) := fun q => q.elim c c2
      refine ⟨fun (c3 : A 71 0 = A 65 0) => ?_, fun (c3 : ¬ A 71 0 = A 65 0) => ?_⟩
      · refine hcl _ _ _ _ (w_hasRow71 ha (fun c4 => ?_) (fun c4 => ?_))
        · refine ⟨fun h9 => absurd h9 (by decide), fun _ => ?_⟩
          refine hcl _ _ _ _ (w_hasRow65 hb (fun c5 => ?_) (fun c5 => ?_))
          · refine ⟨fun _ => ?_, fun h9 => absurd h9 (by decide)⟩
            obtain ⟨i, c, e1, e2, e3⟩ := RW_n hk c4
            obtain ⟨j, c', e4, e5, e6⟩ := RW_n hk' c5
            have : c' = c := by
              rw [e2] at e5
              exact ((nI_eq (by omega) (by omega)).mp e5).symm
            subst this
            have this := k1 cn c3 i j c' e1 e4 e2 e3 e6 c4 c5
            subst e1
            subst e2
            subst e4
            have q1 : (nI i).toNatClampNeg = i := nI_clamp (by omega)
            have q2 : (nI j).toNatClampNeg = j := nI_clamp (by omega)
            have q3 : (nI c').toNatClampNeg = c' := nI_clamp (by omega)
            refine ⟨nI_pos (by omega), nI_pos (by omega), nI_pos (by omega), by rw [q1, q3]; show _ ≤ 40; omega, by rw [q2, q3]; show _ ≤ 40; omega, ?_⟩
            rw [q1, q2, q3]
            exact this
          · refine ⟨fun h9 => absurd h9 (by decide), fun _ => ?_⟩
            exact hcl _ _ _ _ (w_X8_refuse 0 (by decide) (by decide) (k0 cn c3 (fun q => c5 q.2)))
        · refine ⟨fun _ => ?_, fun h9 => absurd h9 (by decide)⟩
          exact hcl _ _ _ _ (w_X8_refuse 0 (by decide) (by decide) (k0 cn c3 (fun q => c4 q.1)))
      · exact hcl _ _ _ _ (w_X8_refuse 2 (by decide) (by decide) (k2 cn c3))
theorem w_X8_copy31 {E : ME} {d : Nat} {f g n : Int32} {k k' : Nat} {A : Nat → Nat → Int32} {B : Nat → Nat → Int64} {K : MK} (hk : k ≤ 40) (ha : A 71 1 = nI k) (hk' : k' ≤ 40) (hb : A 67 1 = nI k') (k5 : (A 71 0 = 0 ∨ A 67 0 = 0) → K (some (.int (-1000000006))) (SH, cnt1 A 5, B)) (k2 : ¬ (A 71 0 = 0 ∨ A 67 0 = 0) → ¬ A 71 0 = A 67 0 → K (some (.int (-1000000003))) (SH, cnt1 A 2, B)) (k0 : ¬ (A 71 0 = 0 ∨ A 67 0 = 0) → A 71 0 = A 67 0 → ¬ (RW (nI k) f n ∧ RW (nI k') g n) → K (some (.int (-1000000001))) (SH, cnt1 A 0, B)) (k1 : ¬ (A 71 0 = 0 ∨ A 67 0 = 0) → A 71 0 = A 67 0 → ∀ i j c, f = nI i → g = nI j → n = nI c → i + c ≤ k → j + c ≤ k' → RW (nI k) f n → RW (nI k') g n → K (some (.int n)) (SH, A, va_up B 68 (va_cpy (B 72) (B 68) i j c))) : mCall E (d + 2) nX8_copy [.ref 0, .int (nI 3), .int f, .int (nI 1), .int g, .int n] (SH, A, B) K := by
  refine mCall_sem MX8_copy rfl rfl (Or.inl ⟨rfl, rfl, rfl⟩) rfl (mSem_wp MX8_copy rfl aX8_copy 300 [] (fun cl ax hcl hax => ?_))
  refine hcl _ _ _ _ (w_X8_isSheet (fun _ _ => ?_) (fun c0 => absurd (by decide) c0))
  refine ⟨fun h9 => absurd h9 (by decide), fun _ => ?_⟩
  refine hcl _ _ _ _ (w_X8_isSheet (fun _ _ => ?_) (fun c0 => absurd (by decide) c0))
  refine ⟨fun _ => ?_, fun h9 => absurd h9 (by decide)⟩
  refine ⟨vl 3 rfl rfl, ?_⟩
  refine ⟨vl 1 rfl rfl, ?_⟩
  refine hcl _ _ _ _ (w_miss71 (fun c => ?_) (fun c => ?_))
  · refine ⟨fun _ => ?_, fun h9 => absurd h9 (by decide)⟩
    exact hcl _ _ _ _ (w_X8_refuse 5 (by decide) (by decide) (k5 (Or.inl c)))
  · refine ⟨fun h9 => absurd h9 (by decide), fun _ => ?_⟩
    refine hcl _ _ _ _ (w_miss67 (fun c2 => ?_) (fun c2 => ?_))
    · refine ⟨fun h9 => absurd h9 (by decide), fun _ => ?_⟩
      exact hcl _ _ _ _ (w_X8_refuse 5 (by decide) (by decide) (k5 (Or.inr c2)))
    · refine ⟨fun _ => ?_, fun h9 => absurd h9 (by decide)⟩
      have cn : ¬ (A 71 0 = 0 ∨ A 67 0 = 0) := fun q => q.elim c c2
      refine ⟨fun (c3 : A 71 0 = A 67 0) => ?_, fun (c3 : ¬ A 71 0 = A 67 0) => ?_⟩
      · refine hcl _ _ _ _ (w_hasRow71 ha (fun c4 => ?_) (fun c4 => ?_))
        · refine ⟨fun h9 => absurd h9 (by decide), fun _ => ?_⟩
          refine hcl _ _ _ _ (w_hasRow67 hb (fun c5 => ?_) (fun c5 => ?_))
          · refine ⟨fun _ => ?_, fun h9 => absurd h9 (by decide)⟩
            obtain ⟨i, c, e1, e2, e3⟩ := RW_n hk c4
            obtain ⟨j, c', e4, e5, e6⟩ := RW_n hk' c5
            have : c' = c := by
              rw [e2] at e5
              exact ((nI_eq (by omega) (by omega)).mp e5).symm
            subst this
            have this := k1 cn c3 i j c' e1 e4 e2 e3 e6 c4 c5
            subst e1
            subst e2
            subst e4
            have q1 : (nI i).toNatClampNeg = i := nI_clamp (by omega)
            have q2 : (nI j).toNatClampNeg = j := nI_clamp (by omega)
            have q3 : (nI c').toNatClampNeg = c' := nI_clamp (by omega)
            refine ⟨nI_pos (by omega), nI_pos (by omega), nI_pos (by omega), by rw [q1, q3]; show _ ≤ 40; omega, by rw [q2, q3]; show _ ≤ 40; omega, ?_⟩
            rw [q1, q2, q3]
            exact this
          · refine ⟨fun h9 => absurd h9 (by decide), fun _ => ?_⟩
            exact hcl _ _ _ _ (w_X8_refuse 0 (by decide) (by decide) (k0 cn c3 (fun q => c5 q.2)))
        · refine ⟨fun _ => ?_, fun h9 => absurd h9 (by decide)⟩
          exact hcl _ _ _ _ (w_X8_refuse 0 (by decide) (by decide) (k0 cn c3 (fun q => c4 q.1)))
      · exact hcl _ _ _ _ (w_X8_refuse 2 (by decide) (by decide) (k2 cn c3))
theorem w_X8_copy32 {E : ME} {d : Nat} {f g n : Int32} {k k' : Nat} {A : Nat → Nat → Int32} {B : Nat → Nat → Int64} {K : MK} (hk : k ≤ 40) (ha : A 71 1 = nI k) (hk' : k' ≤ 40) (hb : A 69 1 = nI k') (k5 : (A 71 0 = 0 ∨ A 69 0 = 0) → K (some (.int (-1000000006))) (SH, cnt1 A 5, B)) (k2 : ¬ (A 71 0 = 0 ∨ A 69 0 = 0) → ¬ A 71 0 = A 69 0 → K (some (.int (-1000000003))) (SH, cnt1 A 2, B)) (k0 : ¬ (A 71 0 = 0 ∨ A 69 0 = 0) → A 71 0 = A 69 0 → ¬ (RW (nI k) f n ∧ RW (nI k') g n) → K (some (.int (-1000000001))) (SH, cnt1 A 0, B)) (k1 : ¬ (A 71 0 = 0 ∨ A 69 0 = 0) → A 71 0 = A 69 0 → ∀ i j c, f = nI i → g = nI j → n = nI c → i + c ≤ k → j + c ≤ k' → RW (nI k) f n → RW (nI k') g n → K (some (.int n)) (SH, A, va_up B 70 (va_cpy (B 72) (B 70) i j c))) : mCall E (d + 2) nX8_copy [.ref 0, .int (nI 3), .int f, .int (nI 2), .int g, .int n] (SH, A, B) K := by
  refine mCall_sem MX8_copy rfl rfl (Or.inl ⟨rfl, rfl, rfl⟩) rfl (mSem_wp MX8_copy rfl aX8_copy 300 [] (fun cl ax hcl hax => ?_))
  refine hcl _ _ _ _ (w_X8_isSheet (fun _ _ => ?_) (fun c0 => absurd (by decide) c0))
  refine ⟨fun h9 => absurd h9 (by decide), fun _ => ?_⟩
  refine hcl _ _ _ _ (w_X8_isSheet (fun _ _ => ?_) (fun c0 => absurd (by decide) c0))
  refine ⟨fun _ => ?_, fun h9 => absurd h9 (by decide)⟩
  refine ⟨vl 3 rfl rfl, ?_⟩
  refine ⟨vl 2 rfl rfl, ?_⟩
  refine hcl _ _ _ _ (w_miss71 (fun c => ?_) (fun c => ?_))
  · refine ⟨fun _ => ?_, fun h9 => absurd h9 (by decide)⟩
    exact hcl _ _ _ _ (w_X8_refuse 5 (by decide) (by decide) (k5 (Or.inl c)))
  · refine ⟨fun h9 => absurd h9 (by decide), fun _ => ?_⟩
    refine hcl _ _ _ _ (w_miss69 (fun c2 => ?_) (fun c2 => ?_))
    · refine ⟨fun h9 => absurd h9 (by decide), fun _ => ?_⟩
      exact hcl _ _ _ _ (w_X8_refuse 5 (by decide) (by decide) (k5 (Or.inr c2)))
    · refine ⟨fun _ => ?_, fun h9 => absurd h9 (by decide)⟩
      have cn : ¬ (A 71 0 = 0 ∨ A 69 0 = 0) := fun q => q.elim c c2
      refine ⟨fun (c3 : A 71 0 = A 69 0) => ?_, fun (c3 : ¬ A 71 0 = A 69 0) => ?_⟩
      · refine hcl _ _ _ _ (w_hasRow71 ha (fun c4 => ?_) (fun c4 => ?_))
        · refine ⟨fun h9 => absurd h9 (by decide), fun _ => ?_⟩
          refine hcl _ _ _ _ (w_hasRow69 hb (fun c5 => ?_) (fun c5 => ?_))
          · refine ⟨fun _ => ?_, fun h9 => absurd h9 (by decide)⟩
            obtain ⟨i, c, e1, e2, e3⟩ := RW_n hk c4
            obtain ⟨j, c', e4, e5, e6⟩ := RW_n hk' c5
            have : c' = c := by
              rw [e2] at e5
              exact ((nI_eq (by omega) (by omega)).mp e5).symm
            subst this
            have this := k1 cn c3 i j c' e1 e4 e2 e3 e6 c4 c5
            subst e1
            subst e2
            subst e4
            have q1 : (nI i).toNatClampNeg = i := nI_clamp (by omega)
            have q2 : (nI j).toNatClampNeg = j := nI_clamp (by omega)
            have q3 : (nI c').toNatClampNeg = c' := nI_clamp (by omega)
            refine ⟨nI_pos (by omega), nI_pos (by omega), nI_pos (by omega), by rw [q1, q3]; show _ ≤ 40; omega, by rw [q2, q3]; show _ ≤ 40; omega, ?_⟩
            rw [q1, q2, q3]
            exact this
          · refine ⟨fun h9 => absurd h9 (by decide), fun _ => ?_⟩
            exact hcl _ _ _ _ (w_X8_refuse 0 (by decide) (by decide) (k0 cn c3 (fun q => c5 q.2)))
        · refine ⟨fun _ => ?_, fun h9 => absurd h9 (by decide)⟩
          exact hcl _ _ _ _ (w_X8_refuse 0 (by decide) (by decide) (k0 cn c3 (fun q => c4 q.1)))
      · exact hcl _ _ _ _ (w_X8_refuse 2 (by decide) (by decide) (k2 cn c3))
theorem w_X8_copy33 {E : ME} {d : Nat} {f g n : Int32} {k k' : Nat} {A : Nat → Nat → Int32} {B : Nat → Nat → Int64} {K : MK} (hk : k ≤ 40) (ha : A 71 1 = nI k) (hk' : k' ≤ 40) (hb : A 71 1 = nI k') (k5 : (A 71 0 = 0 ∨ A 71 0 = 0) → K (some (.int (-1000000006))) (SH, cnt1 A 5, B)) (k2 : ¬ (A 71 0 = 0 ∨ A 71 0 = 0) → ¬ A 71 0 = A 71 0 → K (some (.int (-1000000003))) (SH, cnt1 A 2, B)) (k0 : ¬ (A 71 0 = 0 ∨ A 71 0 = 0) → A 71 0 = A 71 0 → ¬ (RW (nI k) f n ∧ RW (nI k') g n) → K (some (.int (-1000000001))) (SH, cnt1 A 0, B)) (k1 : ¬ (A 71 0 = 0 ∨ A 71 0 = 0) → A 71 0 = A 71 0 → ∀ i j c, f = nI i → g = nI j → n = nI c → i + c ≤ k → j + c ≤ k' → RW (nI k) f n → RW (nI k') g n → K (some (.int n)) (SH, A, va_up B 72 (va_cpy (B 72) (B 72) i j c))) : mCall E (d + 2) nX8_copy [.ref 0, .int (nI 3), .int f, .int (nI 3), .int g, .int n] (SH, A, B) K := by
  refine mCall_sem MX8_copy rfl rfl (Or.inl ⟨rfl, rfl, rfl⟩) rfl (mSem_wp MX8_copy rfl aX8_copy 300 [] (fun cl ax hcl hax => ?_))
  refine hcl _ _ _ _ (w_X8_isSheet (fun _ _ => ?_) (fun c0 => absurd (by decide) c0))
  refine ⟨fun h9 => absurd h9 (by decide), fun _ => ?_⟩
  refine hcl _ _ _ _ (w_X8_isSheet (fun _ _ => ?_) (fun c0 => absurd (by decide) c0))
  refine ⟨fun _ => ?_, fun h9 => absurd h9 (by decide)⟩
  refine ⟨vl 3 rfl rfl, ?_⟩
  refine ⟨vl 3 rfl rfl, ?_⟩
  refine hcl _ _ _ _ (w_miss71 (fun c => ?_) (fun c => ?_))
  · refine ⟨fun _ => ?_, fun h9 => absurd h9 (by decide)⟩
    exact hcl _ _ _ _ (w_X8_refuse 5 (by decide) (by decide) (k5 (Or.inl c)))
  · refine ⟨fun h9 => absurd h9 (by decide), fun _ => ?_⟩
    refine hcl _ _ _ _ (w_miss71 (fun c2 => ?_) (fun c2 => ?_))
    · refine ⟨fun h9 => absurd h9 (by decide), fun _ => ?_⟩
      exact hcl _ _ _ _ (w_X8_refuse 5 (by decide) (by decide) (k5 (Or.inr c2)))
    · refine ⟨fun _ => ?_, fun h9 => absurd h9 (by decide)⟩
      have cn : ¬ (A 71 0 = 0 ∨ A 71 0 = 0) := fun q => q.elim c c2
      refine ⟨fun (c3 : A 71 0 = A 71 0) => ?_, fun (c3 : ¬ A 71 0 = A 71 0) => ?_⟩
      · refine hcl _ _ _ _ (w_hasRow71 ha (fun c4 => ?_) (fun c4 => ?_))
        · refine ⟨fun h9 => absurd h9 (by decide), fun _ => ?_⟩
          refine hcl _ _ _ _ (w_hasRow71 hb (fun c5 => ?_) (fun c5 => ?_))
          · refine ⟨fun _ => ?_, fun h9 => absurd h9 (by decide)⟩
            obtain ⟨i, c, e1, e2, e3⟩ := RW_n hk c4
            obtain ⟨j, c', e4, e5, e6⟩ := RW_n hk' c5
            have : c' = c := by
              rw [e2] at e5
              exact ((nI_eq (by omega) (by omega)).mp e5).symm
            subst this
            have this := k1 cn c3 i j c' e1 e4 e2 e3 e6 c4 c5
            subst e1
            subst e2
            subst e4
            have q1 : (nI i).toNatClampNeg = i := nI_clamp (by omega)
            have q2 : (nI j).toNatClampNeg = j := nI_clamp (by omega)
            have q3 : (nI c').toNatClampNeg = c' := nI_clamp (by omega)
            refine ⟨nI_pos (by omega), nI_pos (by omega), nI_pos (by omega), by rw [q1, q3]; show _ ≤ 40; omega, by rw [q2, q3]; show _ ≤ 40; omega, ?_⟩
            rw [q1, q2, q3]
            exact this
          · refine ⟨fun h9 => absurd h9 (by decide), fun _ => ?_⟩
            exact hcl _ _ _ _ (w_X8_refuse 0 (by decide) (by decide) (k0 cn c3 (fun q => c5 q.2)))
        · refine ⟨fun _ => ?_, fun h9 => absurd h9 (by decide)⟩
          exact hcl _ _ _ _ (w_X8_refuse 0 (by decide) (by decide) (k0 cn c3 (fun q => c4 q.1)))
      · exact hcl _ _ _ _ (w_X8_refuse 2 (by decide) (by decide) (k2 cn c3))
