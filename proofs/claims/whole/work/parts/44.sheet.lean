/-! sheet -/
theorem sh8_bad {E : ME} {d : Nat} {A : Nat → Nat → Int32} {B : Nat → Nat → Int64} {K : MK} {v u w : Int32} (a1 : 0 ≤ v) (a2 : v ≤ 3) (hu : ¬ (u = 0 ∨ u = 8 ∨ u = 16 ∨ u = 64)) (hK : K (some (.int (-1000000001))) (SH, cnt1 A 0, B)) : mCall E (d + 2) nX8_sheet [.ref 0, .int v, .int u, .int w] (SH, A, B) K := by
  refine mCall_sem MX8_sheet rfl rfl (Or.inl ⟨rfl, rfl, rfl⟩) rfl (mSem_wp MX8_sheet rfl aX8_sheet 300 [] (fun cl ax hcl hax => ?_))
  refine hcl _ _ _ _ (w_X8_isSheet (fun _ _ => ?_) (fun c0 => absurd (And.intro a1 a2) c0))
  refine ⟨fun h9 => absurd h9 (by decide), fun _ => ?_⟩
  refine ⟨fun c => absurd (Or.inl c) hu, fun _ => ?_⟩
  refine ⟨fun c => absurd (Or.inr (Or.inl c)) hu, fun _ => ?_⟩
  refine ⟨fun c => absurd (Or.inr (Or.inr (Or.inl c))) hu, fun _ => ?_⟩
  refine ⟨fun c => absurd (Or.inr (Or.inr (Or.inr c))) hu, fun _ => ?_⟩
  exact hcl _ _ _ _ (w_X8_refuse 0 (by decide) (by decide) hK)
theorem sh8_no {E : ME} {d : Nat} {A : Nat → Nat → Int32} {B : Nat → Nat → Int64} {K : MK} {v u w : Int32} (a0 : ¬ (0 ≤ v ∧ v ≤ 3)) (hK : K (some (.int (-1000000001))) (SH, cnt1 A 0, B)) : mCall E (d + 2) nX8_sheet [.ref 0, .int v, .int u, .int w] (SH, A, B) K := by
  refine mCall_sem MX8_sheet rfl rfl (Or.inl ⟨rfl, rfl, rfl⟩) rfl (mSem_wp MX8_sheet rfl aX8_sheet 300 [] (fun cl ax hcl hax => ?_))
  refine hcl _ _ _ _ (w_X8_isSheet (fun c1 c2 => absurd (And.intro c1 c2) a0) (fun _ => ?_))
  refine ⟨fun _ => ?_, fun h9 => absurd h9 (by decide)⟩
  exact hcl _ _ _ _ (w_X8_refuse 0 (by decide) (by decide) hK)
theorem sh8_neg {E : ME} {d : Nat} {A : Nat → Nat → Int32} {B : Nat → Nat → Int64} {K : MK} {v u w : Int32} (a1 : 0 ≤ v) (a2 : v ≤ 3) (hu : u = 0 ∨ u = 8 ∨ u = 16 ∨ u = 64) (w0 : ¬ 0 ≤ w) (hK : K (some (.int (-1000000007))) (SH, cnt1 A 6, B)) : mCall E (d + 2) nX8_sheet [.ref 0, .int v, .int u, .int w] (SH, A, B) K := by
  refine mCall_sem MX8_sheet rfl rfl (Or.inl ⟨rfl, rfl, rfl⟩) rfl (mSem_wp MX8_sheet rfl aX8_sheet 300 [] (fun cl ax hcl hax => ?_))
  refine hcl _ _ _ _ (w_X8_isSheet (fun _ _ => ?_) (fun c0 => absurd (And.intro a1 a2) c0))
  refine ⟨fun h9 => absurd h9 (by decide), fun _ => ?_⟩
  rcases hu with rfl | rfl | rfl | rfl
  · refine ⟨fun _ => ?_, fun h9 => absurd h9 (by decide)⟩
    refine ⟨fun c => absurd c w0, fun _ => ?_⟩
    exact hcl _ _ _ _ (w_X8_refuse 6 (by decide) (by decide) hK)
  · refine ⟨fun h9 => absurd h9 (by decide), fun _ => ?_⟩
    refine ⟨fun _ => ?_, fun h9 => absurd h9 (by decide)⟩
    refine ⟨fun c => absurd c w0, fun _ => ?_⟩
    exact hcl _ _ _ _ (w_X8_refuse 6 (by decide) (by decide) hK)
  · refine ⟨fun h9 => absurd h9 (by decide), fun _ => ?_⟩
    refine ⟨fun h9 => absurd h9 (by decide), fun _ => ?_⟩
    refine ⟨fun _ => ?_, fun h9 => absurd h9 (by decide)⟩
    refine ⟨fun c => absurd c w0, fun _ => ?_⟩
    exact hcl _ _ _ _ (w_X8_refuse 6 (by decide) (by decide) hK)
  · refine ⟨fun h9 => absurd h9 (by decide), fun _ => ?_⟩
    refine ⟨fun h9 => absurd h9 (by decide), fun _ => ?_⟩
    refine ⟨fun h9 => absurd h9 (by decide), fun _ => ?_⟩
    refine ⟨fun _ => ?_, fun h9 => absurd h9 (by decide)⟩
    refine ⟨fun c => absurd c w0, fun _ => ?_⟩
    exact hcl _ _ _ _ (w_X8_refuse 6 (by decide) (by decide) hK)
theorem sh8_big {E : ME} {d : Nat} {A : Nat → Nat → Int32} {B : Nat → Nat → Int64} {K : MK} {v u w : Int32} (a1 : 0 ≤ v) (a2 : v ≤ 3) (hu : u = 0 ∨ u = 8 ∨ u = 16 ∨ u = 64) (w0 : 0 ≤ w) (w40 : ¬ w ≤ 40) (hK : K (some (.int (-1000000001))) (SH, cnt1 A 0, B)) : mCall E (d + 2) nX8_sheet [.ref 0, .int v, .int u, .int w] (SH, A, B) K := by
  refine mCall_sem MX8_sheet rfl rfl (Or.inl ⟨rfl, rfl, rfl⟩) rfl (mSem_wp MX8_sheet rfl aX8_sheet 300 [] (fun cl ax hcl hax => ?_))
  refine hcl _ _ _ _ (w_X8_isSheet (fun _ _ => ?_) (fun c0 => absurd (And.intro a1 a2) c0))
  refine ⟨fun h9 => absurd h9 (by decide), fun _ => ?_⟩
  rcases hu with rfl | rfl | rfl | rfl
  · refine ⟨fun _ => ?_, fun h9 => absurd h9 (by decide)⟩
    refine ⟨fun _ => ?_, fun c => absurd w0 c⟩
    refine ⟨fun c => absurd c w40, fun _ => ?_⟩
    exact hcl _ _ _ _ (w_X8_refuse 0 (by decide) (by decide) hK)
  · refine ⟨fun h9 => absurd h9 (by decide), fun _ => ?_⟩
    refine ⟨fun _ => ?_, fun h9 => absurd h9 (by decide)⟩
    refine ⟨fun _ => ?_, fun c => absurd w0 c⟩
    refine ⟨fun c => absurd c w40, fun _ => ?_⟩
    exact hcl _ _ _ _ (w_X8_refuse 0 (by decide) (by decide) hK)
  · refine ⟨fun h9 => absurd h9 (by decide), fun _ => ?_⟩
    refine ⟨fun h9 => absurd h9 (by decide), fun _ => ?_⟩
    refine ⟨fun _ => ?_, fun h9 => absurd h9 (by decide)⟩
    refine ⟨fun _ => ?_, fun c => absurd w0 c⟩
    refine ⟨fun c => absurd c w40, fun _ => ?_⟩
    exact hcl _ _ _ _ (w_X8_refuse 0 (by decide) (by decide) hK)
  · refine ⟨fun h9 => absurd h9 (by decide), fun _ => ?_⟩
    refine ⟨fun h9 => absurd h9 (by decide), fun _ => ?_⟩
    refine ⟨fun h9 => absurd h9 (by decide), fun _ => ?_⟩
    refine ⟨fun _ => ?_, fun h9 => absurd h9 (by decide)⟩
    refine ⟨fun _ => ?_, fun c => absurd w0 c⟩
    refine ⟨fun c => absurd c w40, fun _ => ?_⟩
    exact hcl _ _ _ _ (w_X8_refuse 0 (by decide) (by decide) hK)
theorem sh9_bad {E : ME} {d : Nat} {A : Nat → Nat → Int32} {B : Nat → Nat → Int64} {K : MK} {v u w : Int32} (a1 : 0 ≤ v) (a2 : v ≤ 3) (hu : ¬ (u = 0 ∨ u = 8 ∨ u = 16 ∨ u = 64)) (hK : K (some (.int (-1000000001))) (SH, cnt2 A 0, B)) : mCall E (d + 2) nX9_sheet [.ref 74, .int v, .int u, .int w] (SH, A, B) K := by
  refine mCall_sem MX9_sheet rfl rfl (Or.inl ⟨rfl, rfl, rfl⟩) rfl (mSem_wp MX9_sheet rfl aX9_sheet 300 [] (fun cl ax hcl hax => ?_))
  refine hcl _ _ _ _ (w_X9_isSheet (fun _ _ => ?_) (fun c0 => absurd (And.intro a1 a2) c0))
  refine ⟨fun h9 => absurd h9 (by decide), fun _ => ?_⟩
  refine ⟨fun c => absurd (Or.inl c) hu, fun _ => ?_⟩
  refine ⟨fun c => absurd (Or.inr (Or.inl c)) hu, fun _ => ?_⟩
  refine ⟨fun c => absurd (Or.inr (Or.inr (Or.inl c))) hu, fun _ => ?_⟩
  refine ⟨fun c => absurd (Or.inr (Or.inr (Or.inr c))) hu, fun _ => ?_⟩
  exact hcl _ _ _ _ (w_X9_finding 0 (by decide) (by decide) hK)
theorem sh9_no {E : ME} {d : Nat} {A : Nat → Nat → Int32} {B : Nat → Nat → Int64} {K : MK} {v u w : Int32} (a0 : ¬ (0 ≤ v ∧ v ≤ 3)) (hK : K (some (.int (-1000000001))) (SH, cnt2 A 0, B)) : mCall E (d + 2) nX9_sheet [.ref 74, .int v, .int u, .int w] (SH, A, B) K := by
  refine mCall_sem MX9_sheet rfl rfl (Or.inl ⟨rfl, rfl, rfl⟩) rfl (mSem_wp MX9_sheet rfl aX9_sheet 300 [] (fun cl ax hcl hax => ?_))
  refine hcl _ _ _ _ (w_X9_isSheet (fun c1 c2 => absurd (And.intro c1 c2) a0) (fun _ => ?_))
  refine ⟨fun _ => ?_, fun h9 => absurd h9 (by decide)⟩
  exact hcl _ _ _ _ (w_X9_finding 0 (by decide) (by decide) hK)
theorem sh9_neg {E : ME} {d : Nat} {A : Nat → Nat → Int32} {B : Nat → Nat → Int64} {K : MK} {v u w : Int32} (a1 : 0 ≤ v) (a2 : v ≤ 3) (hu : u = 0 ∨ u = 8 ∨ u = 16 ∨ u = 64) (w0 : ¬ 0 ≤ w) (hK : K (some (.int (-1000000007))) (SH, cnt2 A 6, B)) : mCall E (d + 2) nX9_sheet [.ref 74, .int v, .int u, .int w] (SH, A, B) K := by
  refine mCall_sem MX9_sheet rfl rfl (Or.inl ⟨rfl, rfl, rfl⟩) rfl (mSem_wp MX9_sheet rfl aX9_sheet 300 [] (fun cl ax hcl hax => ?_))
  refine hcl _ _ _ _ (w_X9_isSheet (fun _ _ => ?_) (fun c0 => absurd (And.intro a1 a2) c0))
  refine ⟨fun h9 => absurd h9 (by decide), fun _ => ?_⟩
  rcases hu with rfl | rfl | rfl | rfl
  · refine ⟨fun _ => ?_, fun h9 => absurd h9 (by decide)⟩
    refine ⟨fun c => absurd c w0, fun _ => ?_⟩
    exact hcl _ _ _ _ (w_X9_finding 6 (by decide) (by decide) hK)
  · refine ⟨fun h9 => absurd h9 (by decide), fun _ => ?_⟩
    refine ⟨fun _ => ?_, fun h9 => absurd h9 (by decide)⟩
    refine ⟨fun c => absurd c w0, fun _ => ?_⟩
    exact hcl _ _ _ _ (w_X9_finding 6 (by decide) (by decide) hK)
  · refine ⟨fun h9 => absurd h9 (by decide), fun _ => ?_⟩
    refine ⟨fun h9 => absurd h9 (by decide), fun _ => ?_⟩
    refine ⟨fun _ => ?_, fun h9 => absurd h9 (by decide)⟩
    refine ⟨fun c => absurd c w0, fun _ => ?_⟩
    exact hcl _ _ _ _ (w_X9_finding 6 (by decide) (by decide) hK)
  · refine ⟨fun h9 => absurd h9 (by decide), fun _ => ?_⟩
    refine ⟨fun h9 => absurd h9 (by decide), fun _ => ?_⟩
    refine ⟨fun h9 => absurd h9 (by decide), fun _ => ?_⟩
    refine ⟨fun _ => ?_, fun h9 => absurd h9 (by decide)⟩
    refine ⟨fun c => absurd c w0, fun _ => ?_⟩
    exact hcl _ _ _ _ (w_X9_finding 6 (by decide) (by decide) hK)
theorem sh9_big {E : ME} {d : Nat} {A : Nat → Nat → Int32} {B : Nat → Nat → Int64} {K : MK} {v u w : Int32} (a1 : 0 ≤ v) (a2 : v ≤ 3) (hu : u = 0 ∨ u = 8 ∨ u = 16 ∨ u = 64) (w0 : 0 ≤ w) (w40 : ¬ w ≤ 40) (hK : K (some (.int (-1000000001))) (SH, cnt2 A 0, B)) : mCall E (d + 2) nX9_sheet [.ref 74, .int v, .int u, .int w] (SH, A, B) K := by
  refine mCall_sem MX9_sheet rfl rfl (Or.inl ⟨rfl, rfl, rfl⟩) rfl (mSem_wp MX9_sheet rfl aX9_sheet 300 [] (fun cl ax hcl hax => ?_))
  refine hcl _ _ _ _ (w_X9_isSheet (fun _ _ => ?_) (fun c0 => absurd (And.intro a1 a2) c0))
  refine ⟨fun h9 => absurd h9 (by decide), fun _ => ?_⟩
  rcases hu with rfl | rfl | rfl | rfl
  · refine ⟨fun _ => ?_, fun h9 => absurd h9 (by decide)⟩
    refine ⟨fun _ => ?_, fun c => absurd w0 c⟩
    refine ⟨fun c => absurd c w40, fun _ => ?_⟩
    exact hcl _ _ _ _ (w_X9_finding 0 (by decide) (by decide) hK)
  · refine ⟨fun h9 => absurd h9 (by decide), fun _ => ?_⟩
    refine ⟨fun _ => ?_, fun h9 => absurd h9 (by decide)⟩
    refine ⟨fun _ => ?_, fun c => absurd w0 c⟩
    refine ⟨fun c => absurd c w40, fun _ => ?_⟩
    exact hcl _ _ _ _ (w_X9_finding 0 (by decide) (by decide) hK)
  · refine ⟨fun h9 => absurd h9 (by decide), fun _ => ?_⟩
    refine ⟨fun h9 => absurd h9 (by decide), fun _ => ?_⟩
    refine ⟨fun _ => ?_, fun h9 => absurd h9 (by decide)⟩
    refine ⟨fun _ => ?_, fun c => absurd w0 c⟩
    refine ⟨fun c => absurd c w40, fun _ => ?_⟩
    exact hcl _ _ _ _ (w_X9_finding 0 (by decide) (by decide) hK)
  · refine ⟨fun h9 => absurd h9 (by decide), fun _ => ?_⟩
    refine ⟨fun h9 => absurd h9 (by decide), fun _ => ?_⟩
    refine ⟨fun h9 => absurd h9 (by decide), fun _ => ?_⟩
    refine ⟨fun _ => ?_, fun h9 => absurd h9 (by decide)⟩
    refine ⟨fun _ => ?_, fun c => absurd w0 c⟩
    refine ⟨fun c => absurd c w40, fun _ => ?_⟩
    exact hcl _ _ _ _ (w_X9_finding 0 (by decide) (by decide) hK)
theorem sh8_ok0 {E : ME} {d : Nat} {A : Nat → Nat → Int32} {B : Nat → Nat → Int64} {K : MK} {u w z : Int32} (hu : u = 0 ∨ u = 8 ∨ u = 16 ∨ u = 64) (w0 : 0 ≤ w) (w40 : w ≤ 40) (hz : z = if u = 0 then 0 else w) (hK : ∀ L : Nat → Int64, (∀ j, j < 40 → L j = 0) → K (some (.int z)) (SH, va_up A 65 (upd (upd (A 65) 0 u) 1 z), va_up B 66 L)) : mCall E (d + 2) nX8_sheet [.ref 0, .int (nI 0), .int u, .int w] (SH, A, B) K := by
  refine mCall_sem MX8_sheet rfl rfl (Or.inl ⟨rfl, rfl, rfl⟩) rfl (mSem_wp MX8_sheet rfl aX8_sheet 300 [] (fun cl ax hcl hax => ?_))
  refine hcl _ _ _ _ (w_X8_isSheet (fun _ _ => ?_) (fun c0 => absurd (by decide) c0))
  refine ⟨fun h9 => absurd h9 (by decide), fun _ => ?_⟩
  rcases hu with rfl | rfl | rfl | rfl
  · refine ⟨fun _ => ?_, fun h9 => absurd h9 (by decide)⟩
    refine ⟨fun _ => ?_, fun c => absurd w0 c⟩
    refine ⟨fun _ => ?_, fun c => absurd w40 c⟩
    refine ⟨vl 0 rfl rfl, ?_⟩
    refine ⟨fun h9 => absurd h9 (by decide), fun _ => ?_⟩
    rw [if_pos rfl] at hz
    subst hz
    refine hcl _ _ _ _ (w_begin65 (fun L hL => ?_))
    refine ⟨vl 0 rfl rfl, ?_⟩
    exact hK L hL
  · refine ⟨fun h9 => absurd h9 (by decide), fun _ => ?_⟩
    refine ⟨fun _ => ?_, fun h9 => absurd h9 (by decide)⟩
    refine ⟨fun _ => ?_, fun c => absurd w0 c⟩
    refine ⟨fun _ => ?_, fun c => absurd w40 c⟩
    refine ⟨vl 0 rfl rfl, ?_⟩
    refine ⟨fun _ => ?_, fun h9 => absurd h9 (by decide)⟩
    rw [if_neg (by decide)] at hz
    subst hz
    refine hcl _ _ _ _ (w_begin65 (fun L hL => ?_))
    refine ⟨vl 0 rfl rfl, ?_⟩
    exact hK L hL
  · refine ⟨fun h9 => absurd h9 (by decide), fun _ => ?_⟩
    refine ⟨fun h9 => absurd h9 (by decide), fun _ => ?_⟩
    refine ⟨fun _ => ?_, fun h9 => absurd h9 (by decide)⟩
    refine ⟨fun _ => ?_, fun c => absurd w0 c⟩
    refine ⟨fun _ => ?_, fun c => absurd w40 c⟩
    refine ⟨vl 0 rfl rfl, ?_⟩
    refine ⟨fun _ => ?_, fun h9 => absurd h9 (by decide)⟩
    rw [if_neg (by decide)] at hz
    subst hz
    refine hcl _ _ _ _ (w_begin65 (fun L hL => ?_))
    refine ⟨vl 0 rfl rfl, ?_⟩
    exact hK L hL
  · refine ⟨fun h9 => absurd h9 (by decide), fun _ => ?_⟩
    refine ⟨fun h9 => absurd h9 (by decide), fun _ => ?_⟩
    refine ⟨fun h9 => absurd h9 (by decide), fun _ => ?_⟩
    refine ⟨fun _ => ?_, fun h9 => absurd h9 (by decide)⟩
    refine ⟨fun _ => ?_, fun c => absurd w0 c⟩
    refine ⟨fun _ => ?_, fun c => absurd w40 c⟩
    refine ⟨vl 0 rfl rfl, ?_⟩
    refine ⟨fun _ => ?_, fun h9 => absurd h9 (by decide)⟩
    rw [if_neg (by decide)] at hz
    subst hz
    refine hcl _ _ _ _ (w_begin65 (fun L hL => ?_))
    refine ⟨vl 0 rfl rfl, ?_⟩
    exact hK L hL
theorem sh8_ok1 {E : ME} {d : Nat} {A : Nat → Nat → Int32} {B : Nat → Nat → Int64} {K : MK} {u w z : Int32} (hu : u = 0 ∨ u = 8 ∨ u = 16 ∨ u = 64) (w0 : 0 ≤ w) (w40 : w ≤ 40) (hz : z = if u = 0 then 0 else w) (hK : ∀ L : Nat → Int64, (∀ j, j < 40 → L j = 0) → K (some (.int z)) (SH, va_up A 67 (upd (upd (A 67) 0 u) 1 z), va_up B 68 L)) : mCall E (d + 2) nX8_sheet [.ref 0, .int (nI 1), .int u, .int w] (SH, A, B) K := by
  refine mCall_sem MX8_sheet rfl rfl (Or.inl ⟨rfl, rfl, rfl⟩) rfl (mSem_wp MX8_sheet rfl aX8_sheet 300 [] (fun cl ax hcl hax => ?_))
  refine hcl _ _ _ _ (w_X8_isSheet (fun _ _ => ?_) (fun c0 => absurd (by decide) c0))
  refine ⟨fun h9 => absurd h9 (by decide), fun _ => ?_⟩
  rcases hu with rfl | rfl | rfl | rfl
  · refine ⟨fun _ => ?_, fun h9 => absurd h9 (by decide)⟩
    refine ⟨fun _ => ?_, fun c => absurd w0 c⟩
    refine ⟨fun _ => ?_, fun c => absurd w40 c⟩
    refine ⟨vl 1 rfl rfl, ?_⟩
    refine ⟨fun h9 => absurd h9 (by decide), fun _ => ?_⟩
    rw [if_pos rfl] at hz
    subst hz
    refine hcl _ _ _ _ (w_begin67 (fun L hL => ?_))
    refine ⟨vl 1 rfl rfl, ?_⟩
    exact hK L hL
  · refine ⟨fun h9 => absurd h9 (by decide), fun _ => ?_⟩
    refine ⟨fun _ => ?_, fun h9 => absurd h9 (by decide)⟩
    refine ⟨fun _ => ?_, fun c => absurd w0 c⟩
    refine ⟨fun _ => ?_, fun c => absurd w40 c⟩
    refine ⟨vl 1 rfl rfl, ?_⟩
    refine ⟨fun _ => ?_, fun h9 => absurd h9 (by decide)⟩
    rw [if_neg (by decide)] at hz
    subst hz
    refine hcl _ _ _ _ (w_begin67 (fun L hL => ?_))
    refine ⟨vl 1 rfl rfl, ?_⟩
    exact hK L hL
  · refine ⟨fun h9 => absurd h9 (by decide), fun _ => ?_⟩
    refine ⟨fun h9 => absurd h9 (by decide), fun _ => ?_⟩
    refine ⟨fun _ => ?_, fun h9 => absurd h9 (by decide)⟩
    refine ⟨fun _ => ?_, fun c => absurd w0 c⟩
    refine ⟨fun _ => ?_, fun c => absurd w40 c⟩
    refine ⟨vl 1 rfl rfl, ?_⟩
    refine ⟨fun _ => ?_, fun h9 => absurd h9 (by decide)⟩
    rw [if_neg (by decide)] at hz
    subst hz
    refine hcl _ _ _ _ (w_begin67 (fun L hL => ?_))
    refine ⟨vl 1 rfl rfl, ?_⟩
    exact hK L hL
  · refine ⟨fun h9 => absurd h9 (by decide), fun _ => ?_⟩
    refine ⟨fun h9 => absurd h9 (by decide), fun _ => ?_⟩
    refine ⟨fun h9 => absurd h9 (by decide), fun _ => ?_⟩
    refine ⟨fun _ => ?_, fun h9 => absurd h9 (by decide)⟩
    refine ⟨fun _ => ?_, fun c => absurd w0 c⟩
    refine ⟨fun _ => ?_, fun c => absurd w40 c⟩
    refine ⟨vl 1 rfl rfl, ?_⟩
    refine ⟨fun _ => ?_, fun h9 => absurd h9 (by decide)⟩
    rw [if_neg (by decide)] at hz
    subst hz
    refine hcl _ _ _ _ (w_begin67 (fun L hL => ?_))
    refine ⟨vl 1 rfl rfl, ?_⟩
    exact hK L hL
theorem sh8_ok2 {E : ME} {d : Nat} {A : Nat → Nat → Int32} {B : Nat → Nat → Int64} {K : MK} {u w z : Int32} (hu : u = 0 ∨ u = 8 ∨ u = 16 ∨ u = 64) (w0 : 0 ≤ w) (w40 : w ≤ 40) (hz : z = if u = 0 then 0 else w) (hK : ∀ L : Nat → Int64, (∀ j, j < 40 → L j = 0) → K (some (.int z)) (SH, va_up A 69 (upd (upd (A 69) 0 u) 1 z), va_up B 70 L)) : mCall E (d + 2) nX8_sheet [.ref 0, .int (nI 2), .int u, .int w] (SH, A, B) K := by
  refine mCall_sem MX8_sheet rfl rfl (Or.inl ⟨rfl, rfl, rfl⟩) rfl (mSem_wp MX8_sheet rfl aX8_sheet 300 [] (fun cl ax hcl hax => ?_))
  refine hcl _ _ _ _ (w_X8_isSheet (fun _ _ => ?_) (fun c0 => absurd (by decide) c0))
  refine ⟨fun h9 => absurd h9 (by decide), fun _ => ?_⟩
  rcases hu with rfl | rfl | rfl | rfl
  · refine ⟨fun _ => ?_, fun h9 => absurd h9 (by decide)⟩
    refine ⟨fun _ => ?_, fun c => absurd w0 c⟩
    refine ⟨fun _ => ?_, fun c => absurd w40 c⟩
    refine ⟨vl 2 rfl rfl, ?_⟩
    refine ⟨fun h9 => absurd h9 (by decide), fun _ => ?_⟩
    rw [if_pos rfl] at hz
    subst hz
    refine hcl _ _ _ _ (w_begin69 (fun L hL => ?_))
    refine ⟨vl 2 rfl rfl, ?_⟩
    exact hK L hL
  · refine ⟨fun h9 => absurd h9 (by decide), fun _ => ?_⟩
    refine ⟨fun _ => ?_, fun h9 => absurd h9 (by decide)⟩
    refine ⟨fun _ => ?_, fun c => absurd w0 c⟩
    refine ⟨fun _ => ?_, fun c => absurd w40 c⟩
    refine ⟨vl 2 rfl rfl, ?_⟩
    refine ⟨fun _ => ?_, fun h9 => absurd h9 (by decide)⟩
    rw [if_neg (by decide)] at hz
    subst hz
    refine hcl _ _ _ _ (w_begin69 (fun L hL => ?_))
    refine ⟨vl 2 rfl rfl, ?_⟩
    exact hK L hL
  · refine ⟨fun h9 => absurd h9 (by decide), fun _ => ?_⟩
    refine ⟨fun h9 => absurd h9 (by decide), fun _ => ?_⟩
    refine ⟨fun _ => ?_, fun h9 => absurd h9 (by decide)⟩
    refine ⟨fun _ => ?_, fun c => absurd w0 c⟩
    refine ⟨fun _ => ?_, fun c => absurd w40 c⟩
    refine ⟨vl 2 rfl rfl, ?_⟩
    refine ⟨fun _ => ?_, fun h9 => absurd h9 (by decide)⟩
    rw [if_neg (by decide)] at hz
    subst hz
    refine hcl _ _ _ _ (w_begin69 (fun L hL => ?_))
    refine ⟨vl 2 rfl rfl, ?_⟩
    exact hK L hL
  · refine ⟨fun h9 => absurd h9 (by decide), fun _ => ?_⟩
    refine ⟨fun h9 => absurd h9 (by decide), fun _ => ?_⟩
    refine ⟨fun h9 => absurd h9 (by decide), fun _ => ?_⟩
    refine ⟨fun _ => ?_, fun h9 => absurd h9 (by decide)⟩
    refine ⟨fun _ => ?_, fun c => absurd w0 c⟩
    refine ⟨fun _ => ?_, fun c => absurd w40 c⟩
    refine ⟨vl 2 rfl rfl, ?_⟩
    refine ⟨fun _ => ?_, fun h9 => absurd h9 (by decide)⟩
    rw [if_neg (by decide)] at hz
    subst hz
    refine hcl _ _ _ _ (w_begin69 (fun L hL => ?_))
    refine ⟨vl 2 rfl rfl, ?_⟩
    exact hK L hL
theorem sh8_ok3 {E : ME} {d : Nat} {A : Nat → Nat → Int32} {B : Nat → Nat → Int64} {K : MK} {u w z : Int32} (hu : u = 0 ∨ u = 8 ∨ u = 16 ∨ u = 64) (w0 : 0 ≤ w) (w40 : w ≤ 40) (hz : z = if u = 0 then 0 else w) (hK : ∀ L : Nat → Int64, (∀ j, j < 40 → L j = 0) → K (some (.int z)) (SH, va_up A 71 (upd (upd (A 71) 0 u) 1 z), va_up B 72 L)) : mCall E (d + 2) nX8_sheet [.ref 0, .int (nI 3), .int u, .int w] (SH, A, B) K := by
  refine mCall_sem MX8_sheet rfl rfl (Or.inl ⟨rfl, rfl, rfl⟩) rfl (mSem_wp MX8_sheet rfl aX8_sheet 300 [] (fun cl ax hcl hax => ?_))
  refine hcl _ _ _ _ (w_X8_isSheet (fun _ _ => ?_) (fun c0 => absurd (by decide) c0))
  refine ⟨fun h9 => absurd h9 (by decide), fun _ => ?_⟩
  rcases hu with rfl | rfl | rfl | rfl
  · refine ⟨fun _ => ?_, fun h9 => absurd h9 (by decide)⟩
    refine ⟨fun _ => ?_, fun c => absurd w0 c⟩
    refine ⟨fun _ => ?_, fun c => absurd w40 c⟩
    refine ⟨vl 3 rfl rfl, ?_⟩
    refine ⟨fun h9 => absurd h9 (by decide), fun _ => ?_⟩
    rw [if_pos rfl] at hz
    subst hz
    refine hcl _ _ _ _ (w_begin71 (fun L hL => ?_))
    refine ⟨vl 3 rfl rfl, ?_⟩
    exact hK L hL
  · refine ⟨fun h9 => absurd h9 (by decide), fun _ => ?_⟩
    refine ⟨fun _ => ?_, fun h9 => absurd h9 (by decide)⟩
    refine ⟨fun _ => ?_, fun c => absurd w0 c⟩
    refine ⟨fun _ => ?_, fun c => absurd w40 c⟩
    refine ⟨vl 3 rfl rfl, ?_⟩
    refine ⟨fun _ => ?_, fun h9 => absurd h9 (by decide)⟩
    rw [if_neg (by decide)] at hz
    subst hz
    refine hcl _ _ _ _ (w_begin71 (fun L hL => ?_))
    refine ⟨vl 3 rfl rfl, ?_⟩
    exact hK L hL
  · refine ⟨fun h9 => absurd h9 (by decide), fun _ => ?_⟩
    refine ⟨fun h9 => absurd h9 (by decide), fun _ => ?_⟩
    refine ⟨fun _ => ?_, fun h9 => absurd h9 (by decide)⟩
    refine ⟨fun _ => ?_, fun c => absurd w0 c⟩
    refine ⟨fun _ => ?_, fun c => absurd w40 c⟩
    refine ⟨vl 3 rfl rfl, ?_⟩
    refine ⟨fun _ => ?_, fun h9 => absurd h9 (by decide)⟩
    rw [if_neg (by decide)] at hz
    subst hz
    refine hcl _ _ _ _ (w_begin71 (fun L hL => ?_))
    refine ⟨vl 3 rfl rfl, ?_⟩
    exact hK L hL
  · refine ⟨fun h9 => absurd h9 (by decide), fun _ => ?_⟩
    refine ⟨fun h9 => absurd h9 (by decide), fun _ => ?_⟩
    refine ⟨fun h9 => absurd h9 (by decide), fun _ => ?_⟩
    refine ⟨fun _ => ?_, fun h9 => absurd h9 (by decide)⟩
    refine ⟨fun _ => ?_, fun c => absurd w0 c⟩
    refine ⟨fun _ => ?_, fun c => absurd w40 c⟩
    refine ⟨vl 3 rfl rfl, ?_⟩
    refine ⟨fun _ => ?_, fun h9 => absurd h9 (by decide)⟩
    rw [if_neg (by decide)] at hz
    subst hz
    refine hcl _ _ _ _ (w_begin71 (fun L hL => ?_))
    refine ⟨vl 3 rfl rfl, ?_⟩
    exact hK L hL
theorem sh9_ok {E : ME} {d : Nat} {A : Nat → Nat → Int32} {B : Nat → Nat → Int64} {K : MK} {u w z : Int32} {s : Nat} (hs : s < 4) (hu : u = 0 ∨ u = 8 ∨ u = 16 ∨ u = 64) (w0 : 0 ≤ w) (w40 : w ≤ 40) (hz : z = if u = 0 then 0 else w) (hK : ∀ L : Nat → Int64, zI s 40 (B 84) L → K (some (.int z)) (SH, va_up (va_up A 82 (upd (A 82) s u)) 83 (upd (A 83) s z), va_up B 84 L)) : mCall E (d + 2) nX9_sheet [.ref 74, .int (nI s), .int u, .int w] (SH, A, B) K := by
  have es : (nI s).toNatClampNeg = s := nI_clamp (by omega)
  have hv : vp_in (nI s) 4 := vp_in_nI (by omega) (by decide)
  have e : va_up B 84 (B 84) = B := by
    funext q
    unfold va_up
    split
    · rename_i c; rw [c]
    · rfl
  have lp := lp_X9_sheet (E := E) (d := d + 2) (A := va_up (va_up A 82 (upd (A 82) s u)) 83 (upd (A 83) s z)) (A0 := A) (B := B) (B0 := B) (K := K) (u := u) (w := w) hs (B 84) (fun L hL => by
    show K (some (.int (upd (A 83) s z s))) _
    rw [ud_s]
    exact hK L hL) (0, B 84) ⟨by omega, fun _ _ => rfl, fun i hi => absurd hi (by simp)⟩
  rw [show (0, B 84).2 = B 84 from rfl, e, ← es] at lp
  rw [show nI (nI s).toNatClampNeg = nI s by rw [es]] at lp
  refine mCall_sem MX9_sheet rfl rfl (Or.inl ⟨rfl, rfl, rfl⟩) rfl (mSem_wp MX9_sheet rfl aX9_sheet 300 [86] (fun cl ax hcl hax => ?_))
  refine hcl _ _ _ _ (w_X9_isSheet (fun _ _ => ?_) (fun c0 => absurd (And.intro (nI_pos' (by omega)) (nI_le (b := 3) (by omega) (by decide))) c0))
  refine ⟨fun h9 => absurd h9 (by decide), fun _ => ?_⟩
  rcases hu with rfl | rfl | rfl | rfl
  · refine ⟨fun _ => ?_, fun h9 => absurd h9 (by decide)⟩
    refine ⟨fun _ => ?_, fun c => absurd w0 c⟩
    refine ⟨fun _ => ?_, fun c => absurd w40 c⟩
    refine ⟨hv, ?_⟩
    refine ⟨fun h9 => absurd h9 (by decide), fun _ => ?_⟩
    refine ⟨hv, ?_⟩
    rw [if_pos rfl] at hz
    subst hz
    exact hax _ _ _ _ lp
  · refine ⟨fun h9 => absurd h9 (by decide), fun _ => ?_⟩
    refine ⟨fun _ => ?_, fun h9 => absurd h9 (by decide)⟩
    refine ⟨fun _ => ?_, fun c => absurd w0 c⟩
    refine ⟨fun _ => ?_, fun c => absurd w40 c⟩
    refine ⟨hv, ?_⟩
    refine ⟨fun _ => ?_, fun h9 => absurd h9 (by decide)⟩
    refine ⟨hv, ?_⟩
    rw [if_neg (by decide)] at hz
    subst hz
    exact hax _ _ _ _ lp
  · refine ⟨fun h9 => absurd h9 (by decide), fun _ => ?_⟩
    refine ⟨fun h9 => absurd h9 (by decide), fun _ => ?_⟩
    refine ⟨fun _ => ?_, fun h9 => absurd h9 (by decide)⟩
    refine ⟨fun _ => ?_, fun c => absurd w0 c⟩
    refine ⟨fun _ => ?_, fun c => absurd w40 c⟩
    refine ⟨hv, ?_⟩
    refine ⟨fun _ => ?_, fun h9 => absurd h9 (by decide)⟩
    refine ⟨hv, ?_⟩
    rw [if_neg (by decide)] at hz
    subst hz
    exact hax _ _ _ _ lp
  · refine ⟨fun h9 => absurd h9 (by decide), fun _ => ?_⟩
    refine ⟨fun h9 => absurd h9 (by decide), fun _ => ?_⟩
    refine ⟨fun h9 => absurd h9 (by decide), fun _ => ?_⟩
    refine ⟨fun _ => ?_, fun h9 => absurd h9 (by decide)⟩
    refine ⟨fun _ => ?_, fun c => absurd w0 c⟩
    refine ⟨fun _ => ?_, fun c => absurd w40 c⟩
    refine ⟨hv, ?_⟩
    refine ⟨fun _ => ?_, fun h9 => absurd h9 (by decide)⟩
    refine ⟨hv, ?_⟩
    rw [if_neg (by decide)] at hz
    subst hz
    exact hax _ _ _ _ lp
