/-! write, the operation -/
theorem w_miss65 {E : ME} {d : Nat} {A : Nat → Nat → Int32} {B : Nat → Nat → Int64} {K : MK} (k1 : A 65 0 = 0 → K (some (.int 1)) (SH, A, B)) (k0 : ¬ A 65 0 = 0 → K (some (.int 0)) (SH, A, B)) : mCall E d nX3_isMissing [.ref 65] (SH, A, B) K := by
  refine mCall_sem MX3_isMissing rfl rfl (Or.inl ⟨rfl, rfl, rfl⟩) rfl (mSem_wp MX3_isMissing rfl aX3_isMissing 300 [] (fun cl ax hcl hax => ?_))
  exact ⟨fun (c : ¬ A 65 0 = 0) => ⟨rfl, k0 c⟩, fun (c : A 65 0 = 0) => ⟨rfl, k1 c⟩⟩
theorem w_miss67 {E : ME} {d : Nat} {A : Nat → Nat → Int32} {B : Nat → Nat → Int64} {K : MK} (k1 : A 67 0 = 0 → K (some (.int 1)) (SH, A, B)) (k0 : ¬ A 67 0 = 0 → K (some (.int 0)) (SH, A, B)) : mCall E d nX3_isMissing [.ref 67] (SH, A, B) K := by
  refine mCall_sem MX3_isMissing rfl rfl (Or.inl ⟨rfl, rfl, rfl⟩) rfl (mSem_wp MX3_isMissing rfl aX3_isMissing 300 [] (fun cl ax hcl hax => ?_))
  exact ⟨fun (c : ¬ A 67 0 = 0) => ⟨rfl, k0 c⟩, fun (c : A 67 0 = 0) => ⟨rfl, k1 c⟩⟩
theorem w_miss69 {E : ME} {d : Nat} {A : Nat → Nat → Int32} {B : Nat → Nat → Int64} {K : MK} (k1 : A 69 0 = 0 → K (some (.int 1)) (SH, A, B)) (k0 : ¬ A 69 0 = 0 → K (some (.int 0)) (SH, A, B)) : mCall E d nX3_isMissing [.ref 69] (SH, A, B) K := by
  refine mCall_sem MX3_isMissing rfl rfl (Or.inl ⟨rfl, rfl, rfl⟩) rfl (mSem_wp MX3_isMissing rfl aX3_isMissing 300 [] (fun cl ax hcl hax => ?_))
  exact ⟨fun (c : ¬ A 69 0 = 0) => ⟨rfl, k0 c⟩, fun (c : A 69 0 = 0) => ⟨rfl, k1 c⟩⟩
theorem w_miss71 {E : ME} {d : Nat} {A : Nat → Nat → Int32} {B : Nat → Nat → Int64} {K : MK} (k1 : A 71 0 = 0 → K (some (.int 1)) (SH, A, B)) (k0 : ¬ A 71 0 = 0 → K (some (.int 0)) (SH, A, B)) : mCall E d nX3_isMissing [.ref 71] (SH, A, B) K := by
  refine mCall_sem MX3_isMissing rfl rfl (Or.inl ⟨rfl, rfl, rfl⟩) rfl (mSem_wp MX3_isMissing rfl aX3_isMissing 300 [] (fun cl ax hcl hax => ?_))
  exact ⟨fun (c : ¬ A 71 0 = 0) => ⟨rfl, k0 c⟩, fun (c : A 71 0 = 0) => ⟨rfl, k1 c⟩⟩
theorem ix40 {u : Int32} {k : Nat} (hk : k ≤ 40) (b1 : 0 ≤ u) (b3 : u ≤ nI k - 1) : ∃ i, i < k ∧ u = nI i := by
  have h1 : nI k ≤ 40 := nI_le (b := 40) hk (by decide)
  have h2 : 0 ≤ nI k := nI_pos' (by omega)
  have h3 : u ≤ 40 := by grind
  obtain ⟨i, hi, rfl⟩ := ix_le 40 b1 h3 rfl
  refine ⟨i, ?_, rfl⟩
  rcases Nat.lt_or_ge i k with q | q
  · exact q
  · exfalso
    have h4 : nI k ≤ nI i := (nI_leI (by omega) (by omega)).mpr q
    grind
theorem sh_s (s : Nat) (hs : s < 4) : 0 ≤ nI s ∧ nI s ≤ 3 := ⟨nI_pos' (by omega), nI_le (b := 3) (by omega) (by decide)⟩
theorem w_X9_write {E : ME} {d : Nat} {u : Int32} {x : Int64} {s : Nat} (hs : s < 4) {A : Nat → Nat → Int32} {B : Nat → Nat → Int64} {K : MK} (k5 : A 82 s = 0 → K (some (.long (Int32.toInt64 (-1000000006)))) (SH, cnt2 A 5, B)) (k0 : ¬ A 82 s = 0 → ¬ (0 ≤ u ∧ u ≤ A 83 s - 1) → K (some (.long (Int32.toInt64 (-1000000001)))) (SH, cnt2 A 0, B)) (k1 : ∀ i, i < 40 → u = nI i → ¬ A 82 s = 0 → u ≤ A 83 s - 1 → K (some (.long (B 84 (40 * s + i)))) (SH, A, va_up B 84 (vp_updL (B 84) (40 * s + i) (cut x (A 82 s))))) (hb : ∃ k, k ≤ 40 ∧ A 83 s = nI k) : mCall E (d + 2) nX9_write [.ref 74, .int (nI s), .int u, .long x] (SH, A, B) K := by
  have es : (nI s).toNatClampNeg = s := nI_clamp (by omega)
  have hv : vp_in (nI s) 4 := vp_in_nI (by omega) (by decide)
  obtain ⟨k, hk, ek⟩ := hb
  refine mCall_sem MX9_write rfl rfl (Or.inl ⟨rfl, rfl, rfl⟩) rfl (mSem_wp MX9_write rfl aX9_write 300 [] (fun cl ax hcl hax => ?_))
  refine hcl _ _ _ _ (w_X9_isSheet (fun _ _ => ?_) (fun c0 => absurd (sh_s s hs) c0))
  refine ⟨fun _ => ?_, fun h9 => absurd h9 (by decide)⟩
  refine ⟨hv, ?_⟩
  refine ⟨fun (c : ¬ A 82 (nI s).toNatClampNeg = 0) => ?_, fun (c : A 82 (nI s).toNatClampNeg = 0) => ?_⟩
  · rw [es] at c
    refine ⟨hv, ?_⟩
    have e3 : (SH, A, B).2.1 83 (nI s).toNatClampNeg = A 83 s := by rw [es]
    rw [e3]
    refine hcl _ _ _ _ (w_X9 (fun b1 b2 => ?_) (fun b0 => ?_))
    · refine ⟨fun _ => ?_, fun h9 => absurd h9 (by decide)⟩
      have b3 := b2
      rw [ek] at b3
      obtain ⟨i, hik, rfl⟩ := ix40 hk b1 b3
      have hi : i < 40 := by omega
      have e8 : (40 * nI s + nI i).toNatClampNeg = 40 * s + i := by rw [zIx]; exact nI_clamp (by omega)
      have v8 : vp_in (40 * nI s + nI i) 160 := by rw [zIx]; exact vp_in_nI (by omega) (by decide)
      refine ⟨v8, ?_⟩
      refine ⟨hv, ?_⟩
      refine hcl _ _ _ _ (w_cutTo ?_)
      refine ⟨v8, ?_⟩
      have this := k1 i hi rfl c b2
      rw [← e8, show A 82 s = A 82 (nI s).toNatClampNeg by rw [es]] at this
      exact this
    · refine ⟨fun h9 => absurd h9 (by decide), fun _ => ?_⟩
      refine hcl _ _ _ _ (w_X9_finding 0 (by decide) (by decide) ?_)
      exact k0 c b0
  · rw [es] at c
    refine hcl _ _ _ _ (w_X9_finding 5 (by decide) (by decide) ?_)
    exact k5 c
theorem w_X8_write0 {E : ME} {d : Nat} {u : Int32} {x : Int64} {A : Nat → Nat → Int32} {B : Nat → Nat → Int64} {K : MK} (k5 : A 65 0 = 0 → K (some (.long (Int32.toInt64 (-1000000006)))) (SH, cnt1 A 5, B)) (k0 : ¬ A 65 0 = 0 → ¬ (0 ≤ u ∧ u ≤ A 65 1 - 1) → K (some (.long (Int32.toInt64 (-1000000001)))) (SH, cnt1 A 0, B)) (k1 : ∀ i, i < 40 → u = nI i → ¬ A 65 0 = 0 → u ≤ A 65 1 - 1 → K (some (.long (B 66 i))) (SH, A, va_up B 66 (vp_updL (B 66) i (cut x (A 65 0))))) (hb : ∃ k, k ≤ 40 ∧ A 65 1 = nI k) : mCall E (d + 2) nX8_write [.ref 0, .int (nI 0), .int u, .long x] (SH, A, B) K := by
  obtain ⟨k, hk, ek⟩ := hb
  refine mCall_sem MX8_write rfl rfl (Or.inl ⟨rfl, rfl, rfl⟩) rfl (mSem_wp MX8_write rfl aX8_write 300 [] (fun cl ax hcl hax => ?_))
  refine hcl _ _ _ _ (w_X8_isSheet (fun _ _ => ?_) (fun c0 => absurd (by decide) c0))
  refine ⟨fun _ => ?_, fun h9 => absurd h9 (by decide)⟩
  refine ⟨vl 0 rfl rfl, ?_⟩
  refine hcl _ _ _ _ (w_miss65 (fun c => ?_) (fun c => ?_))
  · refine ⟨fun h9 => absurd h9 (by decide), fun _ => ?_⟩
    refine hcl _ _ _ _ (w_X8_refuse 5 (by decide) (by decide) ?_)
    exact k5 c
  · refine ⟨fun _ => ?_, fun h9 => absurd h9 (by decide)⟩
    refine hcl _ _ _ _ (w_X8 (fun b1 b2 => ?_) (fun b0 => ?_))
    · refine ⟨fun _ => ?_, fun h9 => absurd h9 (by decide)⟩
      have b3 : u ≤ A 65 1 - 1 := b2
      rw [ek] at b3
      obtain ⟨i, hik, rfl⟩ := ix40 hk b1 b3
      have hi : i < 40 := by omega
      have e8 : (nI i).toNatClampNeg = i := nI_clamp (by omega)
      refine ⟨vp_in_nI (N := 40) (by omega) (by decide), ?_⟩
      refine hcl _ _ _ _ (w_put65 hi ?_)
      have this := k1 i hi rfl c b2
      rw [show B 66 i = B 66 (nI i).toNatClampNeg by rw [e8]] at this
      exact this
    · refine ⟨fun h9 => absurd h9 (by decide), fun _ => ?_⟩
      refine hcl _ _ _ _ (w_X8_refuse 0 (by decide) (by decide) ?_)
      exact k0 c b0
theorem w_X8_write1 {E : ME} {d : Nat} {u : Int32} {x : Int64} {A : Nat → Nat → Int32} {B : Nat → Nat → Int64} {K : MK} (k5 : A 67 0 = 0 → K (some (.long (Int32.toInt64 (-1000000006)))) (SH, cnt1 A 5, B)) (k0 : ¬ A 67 0 = 0 → ¬ (0 ≤ u ∧ u ≤ A 67 1 - 1) → K (some (.long (Int32.toInt64 (-1000000001)))) (SH, cnt1 A 0, B)) (k1 : ∀ i, i < 40 → u = nI i → ¬ A 67 0 = 0 → u ≤ A 67 1 - 1 → K (some (.long (B 68 i))) (SH, A, va_up B 68 (vp_updL (B 68) i (cut x (A 67 0))))) (hb : ∃ k, k ≤ 40 ∧ A 67 1 = nI k) : mCall E (d + 2) nX8_write [.ref 0, .int (nI 1), .int u, .long x] (SH, A, B) K := by
  obtain ⟨k, hk, ek⟩ := hb
  refine mCall_sem MX8_write rfl rfl (Or.inl ⟨rfl, rfl, rfl⟩) rfl (mSem_wp MX8_write rfl aX8_write 300 [] (fun cl ax hcl hax => ?_))
  refine hcl _ _ _ _ (w_X8_isSheet (fun _ _ => ?_) (fun c0 => absurd (by decide) c0))
  refine ⟨fun _ => ?_, fun h9 => absurd h9 (by decide)⟩
  refine ⟨vl 1 rfl rfl, ?_⟩
  refine hcl _ _ _ _ (w_miss67 (fun c => ?_) (fun c => ?_))
  · refine ⟨fun h9 => absurd h9 (by decide), fun _ => ?_⟩
    refine hcl _ _ _ _ (w_X8_refuse 5 (by decide) (by decide) ?_)
    exact k5 c
  · refine ⟨fun _ => ?_, fun h9 => absurd h9 (by decide)⟩
    refine hcl _ _ _ _ (w_X8 (fun b1 b2 => ?_) (fun b0 => ?_))
    · refine ⟨fun _ => ?_, fun h9 => absurd h9 (by decide)⟩
      have b3 : u ≤ A 67 1 - 1 := b2
      rw [ek] at b3
      obtain ⟨i, hik, rfl⟩ := ix40 hk b1 b3
      have hi : i < 40 := by omega
      have e8 : (nI i).toNatClampNeg = i := nI_clamp (by omega)
      refine ⟨vp_in_nI (N := 40) (by omega) (by decide), ?_⟩
      refine hcl _ _ _ _ (w_put67 hi ?_)
      have this := k1 i hi rfl c b2
      rw [show B 68 i = B 68 (nI i).toNatClampNeg by rw [e8]] at this
      exact this
    · refine ⟨fun h9 => absurd h9 (by decide), fun _ => ?_⟩
      refine hcl _ _ _ _ (w_X8_refuse 0 (by decide) (by decide) ?_)
      exact k0 c b0
theorem w_X8_write2 {E : ME} {d : Nat} {u : Int32} {x : Int64} {A : Nat → Nat → Int32} {B : Nat → Nat → Int64} {K : MK} (k5 : A 69 0 = 0 → K (some (.long (Int32.toInt64 (-1000000006)))) (SH, cnt1 A 5, B)) (k0 : ¬ A 69 0 = 0 → ¬ (0 ≤ u ∧ u ≤ A 69 1 - 1) → K (some (.long (Int32.toInt64 (-1000000001)))) (SH, cnt1 A 0, B)) (k1 : ∀ i, i < 40 → u = nI i → ¬ A 69 0 = 0 → u ≤ A 69 1 - 1 → K (some (.long (B 70 i))) (SH, A, va_up B 70 (vp_updL (B 70) i (cut x (A 69 0))))) (hb : ∃ k, k ≤ 40 ∧ A 69 1 = nI k) : mCall E (d + 2) nX8_write [.ref 0, .int (nI 2), .int u, .long x] (SH, A, B) K := by
  obtain ⟨k, hk, ek⟩ := hb
  refine mCall_sem MX8_write rfl rfl (Or.inl ⟨rfl, rfl, rfl⟩) rfl (mSem_wp MX8_write rfl aX8_write 300 [] (fun cl ax hcl hax => ?_))
  refine hcl _ _ _ _ (w_X8_isSheet (fun _ _ => ?_) (fun c0 => absurd (by decide) c0))
  refine ⟨fun _ => ?_, fun h9 => absurd h9 (by decide)⟩
  refine ⟨vl 2 rfl rfl, ?_⟩
  refine hcl _ _ _ _ (w_miss69 (fun c => ?_) (fun c => ?_))
  · refine ⟨fun h9 => absurd h9 (by decide), fun _ => ?_⟩
    refine hcl _ _ _ _ (w_X8_refuse 5 (by decide) (by decide) ?_)
    exact k5 c
  · refine ⟨fun _ => ?_, fun h9 => absurd h9 (by decide)⟩
    refine hcl _ _ _ _ (w_X8 (fun b1 b2 => ?_) (fun b0 => ?_))
    · refine ⟨fun _ => ?_, fun h9 => absurd h9 (by decide)⟩
      have b3 : u ≤ A 69 1 - 1 := b2
      rw [ek] at b3
      obtain ⟨i, hik, rfl⟩ := ix40 hk b1 b3
      have hi : i < 40 := by omega
      have e8 : (nI i).toNatClampNeg = i := nI_clamp (by omega)
      refine ⟨vp_in_nI (N := 40) (by omega) (by decide), ?_⟩
      refine hcl _ _ _ _ (w_put69 hi ?_)
      have this := k1 i hi rfl c b2
      rw [show B 70 i = B 70 (nI i).toNatClampNeg by rw [e8]] at this
      exact this
    · refine ⟨fun h9 => absurd h9 (by decide), fun _ => ?_⟩
      refine hcl _ _ _ _ (w_X8_refuse 0 (by decide) (by decide) ?_)
      exact k0 c b0
theorem w_X8_write3 {E : ME} {d : Nat} {u : Int32} {x : Int64} {A : Nat → Nat → Int32} {B : Nat → Nat → Int64} {K : MK} (k5 : A 71 0 = 0 → K (some (.long (Int32.toInt64 (-1000000006)))) (SH, cnt1 A 5, B)) (k0 : ¬ A 71 0 = 0 → ¬ (0 ≤ u ∧ u ≤ A 71 1 - 1) → K (some (.long (Int32.toInt64 (-1000000001)))) (SH, cnt1 A 0, B)) (k1 : ∀ i, i < 40 → u = nI i → ¬ A 71 0 = 0 → u ≤ A 71 1 - 1 → K (some (.long (B 72 i))) (SH, A, va_up B 72 (vp_updL (B 72) i (cut x (A 71 0))))) (hb : ∃ k, k ≤ 40 ∧ A 71 1 = nI k) : mCall E (d + 2) nX8_write [.ref 0, .int (nI 3), .int u, .long x] (SH, A, B) K := by
  obtain ⟨k, hk, ek⟩ := hb
  refine mCall_sem MX8_write rfl rfl (Or.inl ⟨rfl, rfl, rfl⟩) rfl (mSem_wp MX8_write rfl aX8_write 300 [] (fun cl ax hcl hax => ?_))
  refine hcl _ _ _ _ (w_X8_isSheet (fun _ _ => ?_) (fun c0 => absurd (by decide) c0))
  refine ⟨fun _ => ?_, fun h9 => absurd h9 (by decide)⟩
  refine ⟨vl 3 rfl rfl, ?_⟩
  refine hcl _ _ _ _ (w_miss71 (fun c => ?_) (fun c => ?_))
  · refine ⟨fun h9 => absurd h9 (by decide), fun _ => ?_⟩
    refine hcl _ _ _ _ (w_X8_refuse 5 (by decide) (by decide) ?_)
    exact k5 c
  · refine ⟨fun _ => ?_, fun h9 => absurd h9 (by decide)⟩
    refine hcl _ _ _ _ (w_X8 (fun b1 b2 => ?_) (fun b0 => ?_))
    · refine ⟨fun _ => ?_, fun h9 => absurd h9 (by decide)⟩
      have b3 : u ≤ A 71 1 - 1 := b2
      rw [ek] at b3
      obtain ⟨i, hik, rfl⟩ := ix40 hk b1 b3
      have hi : i < 40 := by omega
      have e8 : (nI i).toNatClampNeg = i := nI_clamp (by omega)
      refine ⟨vp_in_nI (N := 40) (by omega) (by decide), ?_⟩
      refine hcl _ _ _ _ (w_put71 hi ?_)
      have this := k1 i hi rfl c b2
      rw [show B 72 i = B 72 (nI i).toNatClampNeg by rw [e8]] at this
      exact this
    · refine ⟨fun h9 => absurd h9 (by decide), fun _ => ?_⟩
      refine hcl _ _ _ _ (w_X8_refuse 0 (by decide) (by decide) ?_)
      exact k0 c b0
theorem wr_no8 {E : ME} {d : Nat} {v u : Int32} {x : Int64} {A : Nat → Nat → Int32} {B : Nat → Nat → Int64} {K : MK} (a0 : ¬ (0 ≤ v ∧ v ≤ 3)) (hK : K (some (.long (Int32.toInt64 (-1000000001)))) (SH, cnt1 A 0, B)) : mCall E (d + 2) nX8_write [.ref 0, .int v, .int u, .long x] (SH, A, B) K := by
  refine mCall_sem MX8_write rfl rfl (Or.inl ⟨rfl, rfl, rfl⟩) rfl (mSem_wp MX8_write rfl aX8_write 300 [] (fun cl ax hcl hax => ?_))
  refine hcl _ _ _ _ (w_X8_isSheet (fun c1 c2 => absurd (And.intro c1 c2) a0) (fun _ => ?_))
  refine ⟨fun h9 => absurd h9 (by decide), fun _ => ?_⟩
  exact hcl _ _ _ _ (w_X8_refuse 0 (by decide) (by decide) hK)
theorem wr_no9 {E : ME} {d : Nat} {v u : Int32} {x : Int64} {A : Nat → Nat → Int32} {B : Nat → Nat → Int64} {K : MK} (a0 : ¬ (0 ≤ v ∧ v ≤ 3)) (hK : K (some (.long (Int32.toInt64 (-1000000001)))) (SH, cnt2 A 0, B)) : mCall E (d + 2) nX9_write [.ref 74, .int v, .int u, .long x] (SH, A, B) K := by
  refine mCall_sem MX9_write rfl rfl (Or.inl ⟨rfl, rfl, rfl⟩) rfl (mSem_wp MX9_write rfl aX9_write 300 [] (fun cl ax hcl hax => ?_))
  refine hcl _ _ _ _ (w_X9_isSheet (fun c1 c2 => absurd (And.intro c1 c2) a0) (fun _ => ?_))
  refine ⟨fun h9 => absurd h9 (by decide), fun _ => ?_⟩
  exact hcl _ _ _ _ (w_X9_finding 0 (by decide) (by decide) hK)
theorem rS1_wr {A : Nat → Nat → Int32} {B B' : Nat → Nat → Int64} {a b s o i : Nat} {z : Int64} (h : rS1 A B a b s o) (h4 : B' b = vp_updL (B b) i z) (h5 : B' 84 = vp_updL (B 84) (o + i) z) : rS1 A B' a b s o := by
  obtain ⟨e1, e2, e3, e4⟩ := h
  refine ⟨e1, e2, e3, fun j hj => ?_⟩
  rw [h4, h5]
  by_cases e : j = i
  · subst e; rw [udl_s, udl_s]
  · rw [udl_n e, udl_n (by omega)]; exact e4 j hj
theorem op_write {E : ME} {v u : Int32} {x : Int64} {A : Nat → Nat → Int32} {B : Nat → Nat → Int64} (h : rAll A B) : rOpL E nX8_write nX9_write [.int v, .int u, .long x] A B := by
  refine rOpL_of (fun K hK => ?_)
  by_cases ha : ¬ (0 ≤ v ∧ v ≤ 3)
  · exact wr_no8 ha (hK _ _ (mCall_k (fun K hK => wr_no9 ha (hK _ _ (rEnd_cnt h (by decide))))))
  have ha := Classical.not_not.mp ha
  obtain ⟨s, hs, rfl⟩ := ix_le 3 ha.1 ha.2 rfl
  obtain ⟨r0, r1, r2, r3⟩ := h.2.2.2.2
  rcases (show s = 0 ∨ s = 1 ∨ s = 2 ∨ s = 3 by omega) with rfl | rfl | rfl | rfl
  · have e0 := r0.1
    obtain ⟨k, hk, k1, k2⟩ := r0.2.2.1
    have e1 : A 65 1 = A 83 0 := k1.trans k2.symm
    refine w_X8_write0 (fun c => ?_) (fun c c2 => ?_) (fun i hi ei c c2 => ?_) ⟨k, hk, k1⟩
    · refine hK _ _ (mCall_k (fun K hK => w_X9_write (A := cnt1 A 5) (s := 0) (by decide) (fun _ => hK _ _ (rEnd_cnt h (by decide))) (fun c3 => absurd (e0.symm.trans c) c3) (fun _ _ _ c3 => absurd (e0.symm.trans c) c3) ⟨k, hk, k2⟩))
    · refine hK _ _ (mCall_k (fun K hK => w_X9_write (A := cnt1 A 0) (s := 0) (by decide) (fun c3 => absurd (e0.trans c3) c) (fun _ _ => hK _ _ (rEnd_cnt h (by decide))) (fun i hi ei _ c4 => absurd ⟨by rw [ei]; exact nI_pos' (by omega), by rw [e1]; exact c4⟩ c2) ⟨k, hk, k2⟩))
    · refine hK _ _ (mCall_k (fun K hK => w_X9_write (s := 0) (by decide) (fun c3 => absurd (e0.trans c3) c) (fun _ c4 => absurd ⟨by rw [ei]; exact nI_pos' (by omega), by rw [← e1]; exact c2⟩ c4) (fun i2 hi2 ei2 _ _ => ?_) ⟨k, hk, k2⟩))
      have : i2 = i := (nI_eq (by omega) (by omega)).mp (ei2.symm.trans ei)
      subst this
      refine hK _ _ ⟨?_, rfl, h.1, h.2.1, h.2.2.1, h.2.2.2.1, ?_, ?_, ?_, ?_⟩
      · show some (Value.long (B 66 i2)) = some (Value.long (B 84 (40 * 0 + i2)))
        rw [show B 66 i2 = B 84 (40 * 0 + i2) from r0.2.2.2 i2 hi2]
      · exact rS1_wr (i := i2) (z := cut x (A 65 0)) r0 rfl (show vp_updL (B 84) (40 * 0 + i2) (cut x (A 82 0)) = _ by rw [e0])
      · exact rS1_c r1 ⟨rfl, rfl⟩ rfl rfl (fun _ _ => rfl) (fun j hj => udl_n (by omega))
      · exact rS1_c r2 ⟨rfl, rfl⟩ rfl rfl (fun _ _ => rfl) (fun j hj => udl_n (by omega))
      · exact rS1_c r3 ⟨rfl, rfl⟩ rfl rfl (fun _ _ => rfl) (fun j hj => udl_n (by omega))
  · have e0 := r1.1
    obtain ⟨k, hk, k1, k2⟩ := r1.2.2.1
    have e1 : A 67 1 = A 83 1 := k1.trans k2.symm
    refine w_X8_write1 (fun c => ?_) (fun c c2 => ?_) (fun i hi ei c c2 => ?_) ⟨k, hk, k1⟩
    · refine hK _ _ (mCall_k (fun K hK => w_X9_write (A := cnt1 A 5) (s := 1) (by decide) (fun _ => hK _ _ (rEnd_cnt h (by decide))) (fun c3 => absurd (e0.symm.trans c) c3) (fun _ _ _ c3 => absurd (e0.symm.trans c) c3) ⟨k, hk, k2⟩))
    · refine hK _ _ (mCall_k (fun K hK => w_X9_write (A := cnt1 A 0) (s := 1) (by decide) (fun c3 => absurd (e0.trans c3) c) (fun _ _ => hK _ _ (rEnd_cnt h (by decide))) (fun i hi ei _ c4 => absurd ⟨by rw [ei]; exact nI_pos' (by omega), by rw [e1]; exact c4⟩ c2) ⟨k, hk, k2⟩))
    · refine hK _ _ (mCall_k (fun K hK => w_X9_write (s := 1) (by decide) (fun c3 => absurd (e0.trans c3) c) (fun _ c4 => absurd ⟨by rw [ei]; exact nI_pos' (by omega), by rw [← e1]; exact c2⟩ c4) (fun i2 hi2 ei2 _ _ => ?_) ⟨k, hk, k2⟩))
      have : i2 = i := (nI_eq (by omega) (by omega)).mp (ei2.symm.trans ei)
      subst this
      refine hK _ _ ⟨?_, rfl, h.1, h.2.1, h.2.2.1, h.2.2.2.1, ?_, ?_, ?_, ?_⟩
      · show some (Value.long (B 68 i2)) = some (Value.long (B 84 (40 * 1 + i2)))
        rw [show B 68 i2 = B 84 (40 * 1 + i2) from r1.2.2.2 i2 hi2]
      · exact rS1_c r0 ⟨rfl, rfl⟩ rfl rfl (fun _ _ => rfl) (fun j hj => udl_n (by omega))
      · exact rS1_wr (i := i2) (z := cut x (A 67 0)) r1 rfl (show vp_updL (B 84) (40 * 1 + i2) (cut x (A 82 1)) = _ by rw [e0])
      · exact rS1_c r2 ⟨rfl, rfl⟩ rfl rfl (fun _ _ => rfl) (fun j hj => udl_n (by omega))
      · exact rS1_c r3 ⟨rfl, rfl⟩ rfl rfl (fun _ _ => rfl) (fun j hj => udl_n (by omega))
  · have e0 := r2.1
    obtain ⟨k, hk, k1, k2⟩ := r2.2.2.1
    have e1 : A 69 1 = A 83 2 := k1.trans k2.symm
    refine w_X8_write2 (fun c => ?_) (fun c c2 => ?_) (fun i hi ei c c2 => ?_) ⟨k, hk, k1⟩
    · refine hK _ _ (mCall_k (fun K hK => w_X9_write (A := cnt1 A 5) (s := 2) (by decide) (fun _ => hK _ _ (rEnd_cnt h (by decide))) (fun c3 => absurd (e0.symm.trans c) c3) (fun _ _ _ c3 => absurd (e0.symm.trans c) c3) ⟨k, hk, k2⟩))
    · refine hK _ _ (mCall_k (fun K hK => w_X9_write (A := cnt1 A 0) (s := 2) (by decide) (fun c3 => absurd (e0.trans c3) c) (fun _ _ => hK _ _ (rEnd_cnt h (by decide))) (fun i hi ei _ c4 => absurd ⟨by rw [ei]; exact nI_pos' (by omega), by rw [e1]; exact c4⟩ c2) ⟨k, hk, k2⟩))
    · refine hK _ _ (mCall_k (fun K hK => w_X9_write (s := 2) (by decide) (fun c3 => absurd (e0.trans c3) c) (fun _ c4 => absurd ⟨by rw [ei]; exact nI_pos' (by omega), by rw [← e1]; exact c2⟩ c4) (fun i2 hi2 ei2 _ _ => ?_) ⟨k, hk, k2⟩))
      have : i2 = i := (nI_eq (by omega) (by omega)).mp (ei2.symm.trans ei)
      subst this
      refine hK _ _ ⟨?_, rfl, h.1, h.2.1, h.2.2.1, h.2.2.2.1, ?_, ?_, ?_, ?_⟩
      · show some (Value.long (B 70 i2)) = some (Value.long (B 84 (40 * 2 + i2)))
        rw [show B 70 i2 = B 84 (40 * 2 + i2) from r2.2.2.2 i2 hi2]
      · exact rS1_c r0 ⟨rfl, rfl⟩ rfl rfl (fun _ _ => rfl) (fun j hj => udl_n (by omega))
      · exact rS1_c r1 ⟨rfl, rfl⟩ rfl rfl (fun _ _ => rfl) (fun j hj => udl_n (by omega))
      · exact rS1_wr (i := i2) (z := cut x (A 69 0)) r2 rfl (show vp_updL (B 84) (40 * 2 + i2) (cut x (A 82 2)) = _ by rw [e0])
      · exact rS1_c r3 ⟨rfl, rfl⟩ rfl rfl (fun _ _ => rfl) (fun j hj => udl_n (by omega))
  · have e0 := r3.1
    obtain ⟨k, hk, k1, k2⟩ := r3.2.2.1
    have e1 : A 71 1 = A 83 3 := k1.trans k2.symm
    refine w_X8_write3 (fun c => ?_) (fun c c2 => ?_) (fun i hi ei c c2 => ?_) ⟨k, hk, k1⟩
    · refine hK _ _ (mCall_k (fun K hK => w_X9_write (A := cnt1 A 5) (s := 3) (by decide) (fun _ => hK _ _ (rEnd_cnt h (by decide))) (fun c3 => absurd (e0.symm.trans c) c3) (fun _ _ _ c3 => absurd (e0.symm.trans c) c3) ⟨k, hk, k2⟩))
    · refine hK _ _ (mCall_k (fun K hK => w_X9_write (A := cnt1 A 0) (s := 3) (by decide) (fun c3 => absurd (e0.trans c3) c) (fun _ _ => hK _ _ (rEnd_cnt h (by decide))) (fun i hi ei _ c4 => absurd ⟨by rw [ei]; exact nI_pos' (by omega), by rw [e1]; exact c4⟩ c2) ⟨k, hk, k2⟩))
    · refine hK _ _ (mCall_k (fun K hK => w_X9_write (s := 3) (by decide) (fun c3 => absurd (e0.trans c3) c) (fun _ c4 => absurd ⟨by rw [ei]; exact nI_pos' (by omega), by rw [← e1]; exact c2⟩ c4) (fun i2 hi2 ei2 _ _ => ?_) ⟨k, hk, k2⟩))
      have : i2 = i := (nI_eq (by omega) (by omega)).mp (ei2.symm.trans ei)
      subst this
      refine hK _ _ ⟨?_, rfl, h.1, h.2.1, h.2.2.1, h.2.2.2.1, ?_, ?_, ?_, ?_⟩
      · show some (Value.long (B 72 i2)) = some (Value.long (B 84 (40 * 3 + i2)))
        rw [show B 72 i2 = B 84 (40 * 3 + i2) from r3.2.2.2 i2 hi2]
      · exact rS1_c r0 ⟨rfl, rfl⟩ rfl rfl (fun _ _ => rfl) (fun j hj => udl_n (by omega))
      · exact rS1_c r1 ⟨rfl, rfl⟩ rfl rfl (fun _ _ => rfl) (fun j hj => udl_n (by omega))
      · exact rS1_c r2 ⟨rfl, rfl⟩ rfl rfl (fun _ _ => rfl) (fun j hj => udl_n (by omega))
      · exact rS1_wr (i := i2) (z := cut x (A 71 0)) r3 rfl (show vp_updL (B 84) (40 * 3 + i2) (cut x (A 82 3)) = _ by rw [e0])
