/-! map, read: why not -/
theorem w_ref {E : ME} {d : Nat} {n : Int32} {s : Nat} (hs : s < 4) {A : Nat → Nat → Int32} {B : Nat → Nat → Int64} {K : MK} (k5 : A 82 s = 0 → K (some (.int (-1000000006))) (SH, A, B)) (k0 : ¬ A 82 s = 0 → ¬ (0 ≤ n ∧ n ≤ 200) → K (some (.int (-1000000001))) (SH, A, B)) (k4 : ¬ A 82 s = 0 → 0 ≤ n → n ≤ 200 → 999 < A 75 1 + n → K (some (.int (-1000000005))) (SH, A, B)) (k1 : ¬ A 82 s = 0 → 0 ≤ n → n ≤ 200 → ¬ 999 < A 75 1 + n → K (some (.int 0)) (SH, A, B)) : mCall E (d + 2) nX9_refuses [.ref 74, .int (nI s), .int n] (SH, A, B) K := by
  have es : (nI s).toNatClampNeg = s := nI_clamp (by omega)
  have hv : vp_in (nI s) 4 := vp_in_nI (by omega) (by decide)
  refine mCall_sem MX9_refuses rfl rfl (Or.inl ⟨rfl, rfl, rfl⟩) rfl (mSem_wp MX9_refuses rfl aX9_refuses 300 [] (fun cl ax hcl hax => ?_))
  refine hcl _ _ _ _ (w_X9_isSheet (fun _ _ => ?_) (fun c0 => absurd (sh_s s hs) c0))
  refine ⟨fun _ => ?_, fun h9 => absurd h9 (by decide)⟩
  refine ⟨hv, ?_⟩
  refine ⟨fun (c : ¬ A 82 (nI s).toNatClampNeg = 0) => ?_, fun (c : A 82 (nI s).toNatClampNeg = 0) => ?_⟩
  · rw [es] at c
    refine hcl _ _ _ _ (w_X9 (fun b1 b2 => ?_) (fun b0 => ?_))
    · refine ⟨fun _ => ?_, fun h9 => absurd h9 (by decide)⟩
      refine hcl _ _ _ _ (w_X9_isTooLate (y := A 75 1) rfl (fun c2 => ?_) (fun c2 => ?_))
      · refine ⟨fun h9 => absurd h9 (by decide), fun _ => ?_⟩
        exact k4 c b1 b2 c2
      · refine ⟨fun _ => ?_, fun h9 => absurd h9 (by decide)⟩
        exact k1 c b1 b2 c2
    · refine ⟨fun h9 => absurd h9 (by decide), fun _ => ?_⟩
      exact k0 c b0
  · rw [es] at c
    exact k5 c
theorem w_why0 {E : ME} {d : Nat} {n : Int32} {A : Nat → Nat → Int32} {B : Nat → Nat → Int64} {K : MK} (hy : A 2 2 = A 75 1) (k5 : A 65 0 = 0 → K (some (.int (-1000000006))) (SH, A, B)) (k0 : ¬ A 65 0 = 0 → ¬ (0 ≤ n ∧ n ≤ 200) → K (some (.int (-1000000001))) (SH, A, B)) (k4 : ¬ A 65 0 = 0 → 0 ≤ n → n ≤ 200 → 999 < A 75 1 + n → K (some (.int (-1000000005))) (SH, A, B)) (k1 : ¬ A 65 0 = 0 → 0 ≤ n → n ≤ 200 → ¬ 999 < A 75 1 + n → K (some (.int 0)) (SH, A, B)) : mCall E (d + 2) nX8_whyNoMap [.ref 0, .int (nI 0), .int n] (SH, A, B) K := by
  refine mCall_sem MX8_whyNoMap rfl rfl (Or.inl ⟨rfl, rfl, rfl⟩) rfl (mSem_wp MX8_whyNoMap rfl aX8_whyNoMap 300 [] (fun cl ax hcl hax => ?_))
  refine hcl _ _ _ _ (w_X8_isSheet (fun _ _ => ?_) (fun c0 => absurd (by decide) c0))
  refine ⟨fun _ => ?_, fun h9 => absurd h9 (by decide)⟩
  refine ⟨vl 0 rfl rfl, ?_⟩
  refine hcl _ _ _ _ (w_miss65 (fun c => ?_) (fun c => ?_))
  · refine ⟨fun h9 => absurd h9 (by decide), fun _ => ?_⟩
    exact k5 c
  · refine ⟨fun _ => ?_, fun h9 => absurd h9 (by decide)⟩
    refine hcl _ _ _ _ (w_X8 (fun b1 b2 => ?_) (fun b0 => ?_))
    · refine ⟨fun _ => ?_, fun h9 => absurd h9 (by decide)⟩
      refine hcl _ _ _ _ (w_X8_isPast (y := A 75 1) hy (fun c2 => ?_) (fun c2 => ?_))
      · refine ⟨fun h9 => absurd h9 (by decide), fun _ => ?_⟩
        exact k4 c b1 b2 c2
      · refine ⟨fun _ => ?_, fun h9 => absurd h9 (by decide)⟩
        exact k1 c b1 b2 c2
    · refine ⟨fun h9 => absurd h9 (by decide), fun _ => ?_⟩
      exact k0 c b0
theorem w_why1 {E : ME} {d : Nat} {n : Int32} {A : Nat → Nat → Int32} {B : Nat → Nat → Int64} {K : MK} (hy : A 2 2 = A 75 1) (k5 : A 67 0 = 0 → K (some (.int (-1000000006))) (SH, A, B)) (k0 : ¬ A 67 0 = 0 → ¬ (0 ≤ n ∧ n ≤ 200) → K (some (.int (-1000000001))) (SH, A, B)) (k4 : ¬ A 67 0 = 0 → 0 ≤ n → n ≤ 200 → 999 < A 75 1 + n → K (some (.int (-1000000005))) (SH, A, B)) (k1 : ¬ A 67 0 = 0 → 0 ≤ n → n ≤ 200 → ¬ 999 < A 75 1 + n → K (some (.int 0)) (SH, A, B)) : mCall E (d + 2) nX8_whyNoMap [.ref 0, .int (nI 1), .int n] (SH, A, B) K := by
  refine mCall_sem MX8_whyNoMap rfl rfl (Or.inl ⟨rfl, rfl, rfl⟩) rfl (mSem_wp MX8_whyNoMap rfl aX8_whyNoMap 300 [] (fun cl ax hcl hax => ?_))
  refine hcl _ _ _ _ (w_X8_isSheet (fun _ _ => ?_) (fun c0 => absurd (by decide) c0))
  refine ⟨fun _ => ?_, fun h9 => absurd h9 (by decide)⟩
  refine ⟨vl 1 rfl rfl, ?_⟩
  refine hcl _ _ _ _ (w_miss67 (fun c => ?_) (fun c => ?_))
  · refine ⟨fun h9 => absurd h9 (by decide), fun _ => ?_⟩
    exact k5 c
  · refine ⟨fun _ => ?_, fun h9 => absurd h9 (by decide)⟩
    refine hcl _ _ _ _ (w_X8 (fun b1 b2 => ?_) (fun b0 => ?_))
    · refine ⟨fun _ => ?_, fun h9 => absurd h9 (by decide)⟩
      refine hcl _ _ _ _ (w_X8_isPast (y := A 75 1) hy (fun c2 => ?_) (fun c2 => ?_))
      · refine ⟨fun h9 => absurd h9 (by decide), fun _ => ?_⟩
        exact k4 c b1 b2 c2
      · refine ⟨fun _ => ?_, fun h9 => absurd h9 (by decide)⟩
        exact k1 c b1 b2 c2
    · refine ⟨fun h9 => absurd h9 (by decide), fun _ => ?_⟩
      exact k0 c b0
theorem w_why2 {E : ME} {d : Nat} {n : Int32} {A : Nat → Nat → Int32} {B : Nat → Nat → Int64} {K : MK} (hy : A 2 2 = A 75 1) (k5 : A 69 0 = 0 → K (some (.int (-1000000006))) (SH, A, B)) (k0 : ¬ A 69 0 = 0 → ¬ (0 ≤ n ∧ n ≤ 200) → K (some (.int (-1000000001))) (SH, A, B)) (k4 : ¬ A 69 0 = 0 → 0 ≤ n → n ≤ 200 → 999 < A 75 1 + n → K (some (.int (-1000000005))) (SH, A, B)) (k1 : ¬ A 69 0 = 0 → 0 ≤ n → n ≤ 200 → ¬ 999 < A 75 1 + n → K (some (.int 0)) (SH, A, B)) : mCall E (d + 2) nX8_whyNoMap [.ref 0, .int (nI 2), .int n] (SH, A, B) K := by
  refine mCall_sem MX8_whyNoMap rfl rfl (Or.inl ⟨rfl, rfl, rfl⟩) rfl (mSem_wp MX8_whyNoMap rfl aX8_whyNoMap 300 [] (fun cl ax hcl hax => ?_))
  refine hcl _ _ _ _ (w_X8_isSheet (fun _ _ => ?_) (fun c0 => absurd (by decide) c0))
  refine ⟨fun _ => ?_, fun h9 => absurd h9 (by decide)⟩
  refine ⟨vl 2 rfl rfl, ?_⟩
  refine hcl _ _ _ _ (w_miss69 (fun c => ?_) (fun c => ?_))
  · refine ⟨fun h9 => absurd h9 (by decide), fun _ => ?_⟩
    exact k5 c
  · refine ⟨fun _ => ?_, fun h9 => absurd h9 (by decide)⟩
    refine hcl _ _ _ _ (w_X8 (fun b1 b2 => ?_) (fun b0 => ?_))
    · refine ⟨fun _ => ?_, fun h9 => absurd h9 (by decide)⟩
      refine hcl _ _ _ _ (w_X8_isPast (y := A 75 1) hy (fun c2 => ?_) (fun c2 => ?_))
      · refine ⟨fun h9 => absurd h9 (by decide), fun _ => ?_⟩
        exact k4 c b1 b2 c2
      · refine ⟨fun _ => ?_, fun h9 => absurd h9 (by decide)⟩
        exact k1 c b1 b2 c2
    · refine ⟨fun h9 => absurd h9 (by decide), fun _ => ?_⟩
      exact k0 c b0
theorem w_why3 {E : ME} {d : Nat} {n : Int32} {A : Nat → Nat → Int32} {B : Nat → Nat → Int64} {K : MK} (hy : A 2 2 = A 75 1) (k5 : A 71 0 = 0 → K (some (.int (-1000000006))) (SH, A, B)) (k0 : ¬ A 71 0 = 0 → ¬ (0 ≤ n ∧ n ≤ 200) → K (some (.int (-1000000001))) (SH, A, B)) (k4 : ¬ A 71 0 = 0 → 0 ≤ n → n ≤ 200 → 999 < A 75 1 + n → K (some (.int (-1000000005))) (SH, A, B)) (k1 : ¬ A 71 0 = 0 → 0 ≤ n → n ≤ 200 → ¬ 999 < A 75 1 + n → K (some (.int 0)) (SH, A, B)) : mCall E (d + 2) nX8_whyNoMap [.ref 0, .int (nI 3), .int n] (SH, A, B) K := by
  refine mCall_sem MX8_whyNoMap rfl rfl (Or.inl ⟨rfl, rfl, rfl⟩) rfl (mSem_wp MX8_whyNoMap rfl aX8_whyNoMap 300 [] (fun cl ax hcl hax => ?_))
  refine hcl _ _ _ _ (w_X8_isSheet (fun _ _ => ?_) (fun c0 => absurd (by decide) c0))
  refine ⟨fun _ => ?_, fun h9 => absurd h9 (by decide)⟩
  refine ⟨vl 3 rfl rfl, ?_⟩
  refine hcl _ _ _ _ (w_miss71 (fun c => ?_) (fun c => ?_))
  · refine ⟨fun h9 => absurd h9 (by decide), fun _ => ?_⟩
    exact k5 c
  · refine ⟨fun _ => ?_, fun h9 => absurd h9 (by decide)⟩
    refine hcl _ _ _ _ (w_X8 (fun b1 b2 => ?_) (fun b0 => ?_))
    · refine ⟨fun _ => ?_, fun h9 => absurd h9 (by decide)⟩
      refine hcl _ _ _ _ (w_X8_isPast (y := A 75 1) hy (fun c2 => ?_) (fun c2 => ?_))
      · refine ⟨fun h9 => absurd h9 (by decide), fun _ => ?_⟩
        exact k4 c b1 b2 c2
      · refine ⟨fun _ => ?_, fun h9 => absurd h9 (by decide)⟩
        exact k1 c b1 b2 c2
    · refine ⟨fun h9 => absurd h9 (by decide), fun _ => ?_⟩
      exact k0 c b0
theorem w_ref0 {E : ME} {d : Nat} {v n : Int32} {A : Nat → Nat → Int32} {B : Nat → Nat → Int64} {K : MK} (ha : ¬ (0 ≤ v ∧ v ≤ 3)) (k0 : K (some (.int (-1000000001))) (SH, A, B)) : mCall E (d + 2) nX9_refuses [.ref 74, .int v, .int n] (SH, A, B) K := by
  refine mCall_sem MX9_refuses rfl rfl (Or.inl ⟨rfl, rfl, rfl⟩) rfl (mSem_wp MX9_refuses rfl aX9_refuses 300 [] (fun cl ax hcl hax => ?_))
  refine hcl _ _ _ _ (w_X9_isSheet (fun c1 c2 => absurd (And.intro c1 c2) ha) (fun _ => ?_))
  refine ⟨fun h9 => absurd h9 (by decide), fun _ => ?_⟩
  exact k0
theorem w_why_no {E : ME} {d : Nat} {v n : Int32} {A : Nat → Nat → Int32} {B : Nat → Nat → Int64} {K : MK} (ha : ¬ (0 ≤ v ∧ v ≤ 3)) (k0 : K (some (.int (-1000000001))) (SH, A, B)) : mCall E (d + 2) nX8_whyNoMap [.ref 0, .int v, .int n] (SH, A, B) K := by
  refine mCall_sem MX8_whyNoMap rfl rfl (Or.inl ⟨rfl, rfl, rfl⟩) rfl (mSem_wp MX8_whyNoMap rfl aX8_whyNoMap 300 [] (fun cl ax hcl hax => ?_))
  refine hcl _ _ _ _ (w_X8_isSheet (fun c1 c2 => absurd (And.intro c1 c2) ha) (fun _ => ?_))
  refine ⟨fun h9 => absurd h9 (by decide), fun _ => ?_⟩
  exact k0
/-- i numbers of a sheet written -/
def wI (w : Int32) (F : Nat → Int32) (o j : Nat) (L0 L : Nat → Int64) : Prop := (∀ i, i < j → L (o + i) = cut (F i).toInt64 w) ∧ ∀ q, ¬ (o ≤ q ∧ q < o + j) → L q = L0 q
theorem wI_go {w : Int32} {F : Nat → Int32} {o j : Nat} {L0 L : Nat → Int64} (h : wI w F o j L0 L) : wI w F o (j + 1) L0 (vp_updL L (o + j) (cut (F j).toInt64 w)) := by
  refine ⟨fun i hi => ?_, fun q hq => ?_⟩
  · by_cases e : i = j
    · subst e; rw [udl_s]
    · rw [udl_n (by omega)]; exact h.1 i (by omega)
  · rw [udl_n (by omega)]; exact h.2 q (by omega)
theorem lp_X8_map0 {E : ME} {d : Nat} {A A0 : Nat → Nat → Int32} {B B0 : Nat → Nat → Int64} {K : MK} {n : Int32} {m : Nat} (hm : m ≤ 12) (L0 : Nat → Int64) (hK : ∀ L, wI (A 65 0) (A 38) 0 m L0 L → K (some (.int (nI m))) (SH, A, va_up B 66 L)) : ∀ p : Nat × (Nat → Int64), (p.1 ≤ m ∧ wI (A 65 0) (A 38) 0 p.1 L0 p.2) → mSem E (d + 1) nX8_map (SH, A0, B0) 0 0 K 53 [some (.ref 0), some (.int (nI 0)), some (.int n), some (.int 0), some (.ref 65), some (.int (nI m)), some (.int (nI p.1))] [] (SH, A, va_up B 66 p.2) := by
  refine mSem_loop (σ := Nat × (Nat → Int64)) (h0 := (SH, A0, B0)) MX8_map rfl aX8_map 300 [53] (fun p => [some (.ref 0), some (.int (nI 0)), some (.int n), some (.int 0), some (.ref 65), some (.int (nI m)), some (.int (nI p.1))]) (fun p => (SH, A, va_up B 66 p.2)) (fun p => p.1 ≤ m ∧ wI (A 65 0) (A 38) 0 p.1 L0 p.2) (fun p => m - p.1) ?_
  rintro ⟨j, L⟩ ⟨hj, hI⟩ cl ax hcl hax hlp
  have hj : j ≤ m := hj
  have hI : wI (A 65 0) (A 38) 0 j L0 L := hI
  have e8 : (nI j).toNatClampNeg = j := nI_clamp (by omega)
  refine ⟨fun (c0 : nI m ≤ nI j) => ?_, fun (c0 : ¬ nI m ≤ nI j) => ?_⟩
  · rw [nI_leI (by omega) (by omega)] at c0
    have : j = m := by omega
    subst this
    exact hK L hI
  · rw [nI_leI (by omega) (by omega)] at c0
    refine ⟨vp_in_nI (N := 12) (by omega) (by decide), ?_⟩
    refine hcl _ _ _ _ (w_put65 (B := va_up B 66 L) (i := j) (by omega) ?_)
    have hI2 := wI_go hI
    rw [show 0 + j = j by omega] at hI2
    have this : ax 53 [some (.ref 0), some (.int (nI 0)), some (.int n), some (.int 0), some (.ref 65), some (.int (nI m)), some (.int (nI (j + 1)))] [] (SH, A, va_up B 66 (vp_updL L j (cut (A 38 j).toInt64 (A 65 0)))) := hlp (j + 1, _) ⟨by show j + 1 ≤ m; omega, hI2⟩ (by show m - (j + 1) < m - j; omega)
    rw [← nI_1 j, show A 38 j = A 38 (nI j).toNatClampNeg by rw [e8], ← up_up (F := L)] at this
    exact this
theorem lp_X8_map1 {E : ME} {d : Nat} {A A0 : Nat → Nat → Int32} {B B0 : Nat → Nat → Int64} {K : MK} {n : Int32} {m : Nat} (hm : m ≤ 12) (L0 : Nat → Int64) (hK : ∀ L, wI (A 67 0) (A 38) 0 m L0 L → K (some (.int (nI m))) (SH, A, va_up B 68 L)) : ∀ p : Nat × (Nat → Int64), (p.1 ≤ m ∧ wI (A 67 0) (A 38) 0 p.1 L0 p.2) → mSem E (d + 1) nX8_map (SH, A0, B0) 0 0 K 53 [some (.ref 0), some (.int (nI 1)), some (.int n), some (.int 0), some (.ref 67), some (.int (nI m)), some (.int (nI p.1))] [] (SH, A, va_up B 68 p.2) := by
  refine mSem_loop (σ := Nat × (Nat → Int64)) (h0 := (SH, A0, B0)) MX8_map rfl aX8_map 300 [53] (fun p => [some (.ref 0), some (.int (nI 1)), some (.int n), some (.int 0), some (.ref 67), some (.int (nI m)), some (.int (nI p.1))]) (fun p => (SH, A, va_up B 68 p.2)) (fun p => p.1 ≤ m ∧ wI (A 67 0) (A 38) 0 p.1 L0 p.2) (fun p => m - p.1) ?_
  rintro ⟨j, L⟩ ⟨hj, hI⟩ cl ax hcl hax hlp
  have hj : j ≤ m := hj
  have hI : wI (A 67 0) (A 38) 0 j L0 L := hI
  have e8 : (nI j).toNatClampNeg = j := nI_clamp (by omega)
  refine ⟨fun (c0 : nI m ≤ nI j) => ?_, fun (c0 : ¬ nI m ≤ nI j) => ?_⟩
  · rw [nI_leI (by omega) (by omega)] at c0
    have : j = m := by omega
    subst this
    exact hK L hI
  · rw [nI_leI (by omega) (by omega)] at c0
    refine ⟨vp_in_nI (N := 12) (by omega) (by decide), ?_⟩
    refine hcl _ _ _ _ (w_put67 (B := va_up B 68 L) (i := j) (by omega) ?_)
    have hI2 := wI_go hI
    rw [show 0 + j = j by omega] at hI2
    have this : ax 53 [some (.ref 0), some (.int (nI 1)), some (.int n), some (.int 0), some (.ref 67), some (.int (nI m)), some (.int (nI (j + 1)))] [] (SH, A, va_up B 68 (vp_updL L j (cut (A 38 j).toInt64 (A 67 0)))) := hlp (j + 1, _) ⟨by show j + 1 ≤ m; omega, hI2⟩ (by show m - (j + 1) < m - j; omega)
    rw [← nI_1 j, show A 38 j = A 38 (nI j).toNatClampNeg by rw [e8], ← up_up (F := L)] at this
    exact this
theorem lp_X8_map2 {E : ME} {d : Nat} {A A0 : Nat → Nat → Int32} {B B0 : Nat → Nat → Int64} {K : MK} {n : Int32} {m : Nat} (hm : m ≤ 12) (L0 : Nat → Int64) (hK : ∀ L, wI (A 69 0) (A 38) 0 m L0 L → K (some (.int (nI m))) (SH, A, va_up B 70 L)) : ∀ p : Nat × (Nat → Int64), (p.1 ≤ m ∧ wI (A 69 0) (A 38) 0 p.1 L0 p.2) → mSem E (d + 1) nX8_map (SH, A0, B0) 0 0 K 53 [some (.ref 0), some (.int (nI 2)), some (.int n), some (.int 0), some (.ref 69), some (.int (nI m)), some (.int (nI p.1))] [] (SH, A, va_up B 70 p.2) := by
  refine mSem_loop (σ := Nat × (Nat → Int64)) (h0 := (SH, A0, B0)) MX8_map rfl aX8_map 300 [53] (fun p => [some (.ref 0), some (.int (nI 2)), some (.int n), some (.int 0), some (.ref 69), some (.int (nI m)), some (.int (nI p.1))]) (fun p => (SH, A, va_up B 70 p.2)) (fun p => p.1 ≤ m ∧ wI (A 69 0) (A 38) 0 p.1 L0 p.2) (fun p => m - p.1) ?_
  rintro ⟨j, L⟩ ⟨hj, hI⟩ cl ax hcl hax hlp
  have hj : j ≤ m := hj
  have hI : wI (A 69 0) (A 38) 0 j L0 L := hI
  have e8 : (nI j).toNatClampNeg = j := nI_clamp (by omega)
  refine ⟨fun (c0 : nI m ≤ nI j) => ?_, fun (c0 : ¬ nI m ≤ nI j) => ?_⟩
  · rw [nI_leI (by omega) (by omega)] at c0
    have : j = m := by omega
    subst this
    exact hK L hI
  · rw [nI_leI (by omega) (by omega)] at c0
    refine ⟨vp_in_nI (N := 12) (by omega) (by decide), ?_⟩
    refine hcl _ _ _ _ (w_put69 (B := va_up B 70 L) (i := j) (by omega) ?_)
    have hI2 := wI_go hI
    rw [show 0 + j = j by omega] at hI2
    have this : ax 53 [some (.ref 0), some (.int (nI 2)), some (.int n), some (.int 0), some (.ref 69), some (.int (nI m)), some (.int (nI (j + 1)))] [] (SH, A, va_up B 70 (vp_updL L j (cut (A 38 j).toInt64 (A 69 0)))) := hlp (j + 1, _) ⟨by show j + 1 ≤ m; omega, hI2⟩ (by show m - (j + 1) < m - j; omega)
    rw [← nI_1 j, show A 38 j = A 38 (nI j).toNatClampNeg by rw [e8], ← up_up (F := L)] at this
    exact this
theorem lp_X8_map3 {E : ME} {d : Nat} {A A0 : Nat → Nat → Int32} {B B0 : Nat → Nat → Int64} {K : MK} {n : Int32} {m : Nat} (hm : m ≤ 12) (L0 : Nat → Int64) (hK : ∀ L, wI (A 71 0) (A 38) 0 m L0 L → K (some (.int (nI m))) (SH, A, va_up B 72 L)) : ∀ p : Nat × (Nat → Int64), (p.1 ≤ m ∧ wI (A 71 0) (A 38) 0 p.1 L0 p.2) → mSem E (d + 1) nX8_map (SH, A0, B0) 0 0 K 53 [some (.ref 0), some (.int (nI 3)), some (.int n), some (.int 0), some (.ref 71), some (.int (nI m)), some (.int (nI p.1))] [] (SH, A, va_up B 72 p.2) := by
  refine mSem_loop (σ := Nat × (Nat → Int64)) (h0 := (SH, A0, B0)) MX8_map rfl aX8_map 300 [53] (fun p => [some (.ref 0), some (.int (nI 3)), some (.int n), some (.int 0), some (.ref 71), some (.int (nI m)), some (.int (nI p.1))]) (fun p => (SH, A, va_up B 72 p.2)) (fun p => p.1 ≤ m ∧ wI (A 71 0) (A 38) 0 p.1 L0 p.2) (fun p => m - p.1) ?_
  rintro ⟨j, L⟩ ⟨hj, hI⟩ cl ax hcl hax hlp
  have hj : j ≤ m := hj
  have hI : wI (A 71 0) (A 38) 0 j L0 L := hI
  have e8 : (nI j).toNatClampNeg = j := nI_clamp (by omega)
  refine ⟨fun (c0 : nI m ≤ nI j) => ?_, fun (c0 : ¬ nI m ≤ nI j) => ?_⟩
  · rw [nI_leI (by omega) (by omega)] at c0
    have : j = m := by omega
    subst this
    exact hK L hI
  · rw [nI_leI (by omega) (by omega)] at c0
    refine ⟨vp_in_nI (N := 12) (by omega) (by decide), ?_⟩
    refine hcl _ _ _ _ (w_put71 (B := va_up B 72 L) (i := j) (by omega) ?_)
    have hI2 := wI_go hI
    rw [show 0 + j = j by omega] at hI2
    have this : ax 53 [some (.ref 0), some (.int (nI 3)), some (.int n), some (.int 0), some (.ref 71), some (.int (nI m)), some (.int (nI (j + 1)))] [] (SH, A, va_up B 72 (vp_updL L j (cut (A 38 j).toInt64 (A 71 0)))) := hlp (j + 1, _) ⟨by show j + 1 ≤ m; omega, hI2⟩ (by show m - (j + 1) < m - j; omega)
    rw [← nI_1 j, show A 38 j = A 38 (nI j).toNatClampNeg by rw [e8], ← up_up (F := L)] at this
    exact this
theorem lp_X9_map {E : ME} {d : Nat} {A A0 : Nat → Nat → Int32} {B B0 : Nat → Nat → Int64} {K : MK} {n : Int32} {s m : Nat} (hs : s < 4) (hm : m ≤ 12) (L0 : Nat → Int64) (hK : ∀ L R2, wI (A 82 s) (fun i => A 75 (17 + 5 * i)) (40 * s) m L0 L → (∀ q, q < 135 → R2 q = A 77 q) → K (some (.int (nI m))) (SH, va_up A 75 R2, va_up B 84 L)) : ∀ p : Nat × (Nat → Int64), (p.1 ≤ m ∧ wI (A 82 s) (fun i => A 75 (17 + 5 * i)) (40 * s) p.1 L0 p.2) → mSem E (d + 2) nX9_map (SH, A0, B0) 0 0 K 54 [some (.ref 74), some (.int (nI s)), some (.int n), some (.int 0), some (.int (nI m)), some (.int (nI p.1))] [] (SH, A, va_up B 84 p.2) := by
  refine mSem_loop (σ := Nat × (Nat → Int64)) (h0 := (SH, A0, B0)) MX9_map rfl aX9_map 300 [54] (fun p => [some (.ref 74), some (.int (nI s)), some (.int n), some (.int 0), some (.int (nI m)), some (.int (nI p.1))]) (fun p => (SH, A, va_up B 84 p.2)) (fun p => p.1 ≤ m ∧ wI (A 82 s) (fun i => A 75 (17 + 5 * i)) (40 * s) p.1 L0 p.2) (fun p => m - p.1) ?_
  rintro ⟨j, L⟩ ⟨hj, hI⟩ cl ax hcl hax hlp
  have hj : j ≤ m := hj
  have hI : wI (A 82 s) (fun i => A 75 (17 + 5 * i)) (40 * s) j L0 L := hI
  have es : (nI s).toNatClampNeg = s := nI_clamp (by omega)
  have e8 : (40 * nI s + nI j).toNatClampNeg = 40 * s + j := by rw [zIx]; exact nI_clamp (by omega)
  refine ⟨fun (c0 : nI m ≤ nI j) => ?_, fun (c0 : ¬ nI m ≤ nI j) => ?_⟩
  · rw [nI_leI (by omega) (by omega)] at c0
    have : j = m := by omega
    subst this
    refine hcl _ _ _ _ (w_putBack (fun R2 h2 => ?_))
    exact hK L R2 hI h2
  · rw [nI_leI (by omega) (by omega)] at c0
    refine hcl _ _ _ _ (w_houseIs (17 + 5 * j) (by omega) (hIx j 2 _ (by omega)) ?_)
    refine ⟨vp_in_nI (N := 4) (by omega) (by decide), ?_⟩
    refine hcl _ _ _ _ (w_cutTo ?_)
    refine ⟨show vp_in (40 * nI s + nI j) 160 by rw [zIx]; exact vp_in_nI (by omega) (by decide), ?_⟩
    have this : ax 54 [some (.ref 74), some (.int (nI s)), some (.int n), some (.int 0), some (.int (nI m)), some (.int (nI (j + 1)))] [] (SH, A, va_up B 84 (vp_updL L (40 * s + j) (cut (A 75 (17 + 5 * j)).toInt64 (A 82 s)))) := hlp (j + 1, _) ⟨by show j + 1 ≤ m; omega, wI_go hI⟩ (by show m - (j + 1) < m - j; omega)
    rw [← nI_1 j, ← e8, show A 82 s = A 82 (nI s).toNatClampNeg by rw [es], ← up_up (F := L)] at this
    exact this
