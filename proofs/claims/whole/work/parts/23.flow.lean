/-! HOW FAR THE ICE GOES, AND A HOUSE -/
/-- is a year warm: 1 -/
def wb (w y : Int32) : Int32 := (w >>> ((y - y / 7 * 7) &&& 31)) &&& 1
theorem and1 (z : Int32) : z &&& 1 = 0 ∨ z &&& 1 = 1 := by
  obtain ⟨j, hj, h⟩ := pk_andE z (m := 1) 1 rfl
  rcases (show j = 0 ∨ j = 1 by omega) with rfl | rfl
  · exact Or.inl h
  · exact Or.inr h
theorem wb01 (w y : Int32) : wb w y = 0 ∨ wb w y = 1 := and1 _
def fl (w p y : Int32) : Int32 := if wb w y = 1 then p + p / 2 else p
theorem w_isWarm {E : ME} {d : Nat} {y : Int32} {A : Nat → Nat → Int32} {B : Nat → Nat → Int64} {K : MK} (h1 : wb (A 2 1) y = 1 → K (some (.int 1)) (SH, A, B)) (h0 : ¬ wb (A 2 1) y = 1 → K (some (.int 0)) (SH, A, B)) : mCall E d nX2_isWarm [.ref 2, .int y] (SH, A, B) K := by
  refine mCall_sem MX2_isWarm rfl rfl (Or.inl ⟨rfl, rfl, rfl⟩) rfl (mSem_wp MX2_isWarm rfl aX2_isWarm 300 [] (fun cl ax hcl hax => ?_))
  refine ⟨by decide, ?_⟩
  refine ⟨fun c => ?_, fun c => ?_⟩
  · exact ⟨rfl, h0 (by rw [show wb (A 2 1) y = 0 from c]; decide)⟩
  · exact ⟨rfl, h1 ((wb01 (A 2 1) y).resolve_left c)⟩
theorem w_flow {E : ME} {d : Nat} {l y : Int32} {A : Nat → Nat → Int32} {B : Nat → Nat → Int64} {K : MK} (k : Nat) (hk : k < 9) (e : l = nI k) (hK : K (some (.int (fl (A 2 1) (A 3 k) y))) (SH, A, B)) : mCall E (d + 1) nX2_flow [.ref 2, .int l, .int y] (SH, A, B) K := by
  subst e
  have e8 : (nI k).toNatClampNeg = k := nI_clamp (by omega)
  refine mCall_sem MX2_flow rfl rfl (Or.inl ⟨rfl, rfl, rfl⟩) rfl (mSem_wp MX2_flow rfl aX2_flow 300 [] (fun cl ax hcl hax => ?_))
  refine ⟨vp_in_nI hk (by decide), ?_⟩
  unfold fl at hK
  refine hcl _ _ _ _ (w_isWarm (fun c => ?_) (fun c => ?_))
  · refine ⟨fun h9 => absurd h9 (by decide), fun _ => ?_⟩
    refine ⟨by decide, ?_⟩
    rw [if_pos c, ← e8] at hK
    exact hK
  · refine ⟨fun _ => ?_, fun h9 => absurd h9 (by decide)⟩
    rw [if_neg c, ← e8] at hK
    exact hK
theorem w_has {E : ME} {d : Nat} {s k : Int32} {h : MH} {K : MK} (h1 : (s >>> (k &&& 31)) &&& 1 = 1 → K (some (.int 1)) h) (h0 : ¬ (s >>> (k &&& 31)) &&& 1 = 1 → K (some (.int 0)) h) : mCall E d nX9_has [.int s, .int k] h K := by
  refine mCall_sem MX9_has rfl rfl (Or.inl ⟨rfl, rfl, rfl⟩) rfl (mSem_wp MX9_has rfl aX9_has 300 [] (fun cl ax hcl hax => ?_))
  refine ⟨fun c => ?_, fun c => ?_⟩
  · exact ⟨rfl, h0 c⟩
  · exact ⟨rfl, h1 c⟩
theorem w_goesBy {E : ME} {d : Nat} {p y : Int32} {A : Nat → Nat → Int32} {B : Nat → Nat → Int64} {K : MK} (hK : K (some (.int (fl (A 75 2) p y))) (SH, A, B)) : mCall E (d + 1) nX9_goesBy [.ref 74, .int p, .int y] (SH, A, B) K := by
  refine mCall_sem MX9_goesBy rfl rfl (Or.inl ⟨rfl, rfl, rfl⟩) rfl (mSem_wp MX9_goesBy rfl aX9_goesBy 300 [] (fun cl ax hcl hax => ?_))
  refine ⟨vl 2 rfl rfl, ?_⟩
  refine ⟨by decide, ?_⟩
  unfold fl at hK
  refine hcl _ _ _ _ (w_has (fun c => ?_) (fun c => ?_))
  · refine ⟨fun h9 => absurd h9 (by decide), fun _ => ?_⟩
    refine ⟨by decide, ?_⟩
    have c : wb (A 75 2) y = 1 := c
    rw [if_pos c] at hK
    exact hK
  · refine ⟨fun _ => ?_, fun h9 => absurd h9 (by decide)⟩
    have c : ¬ wb (A 75 2) y = 1 := c
    rw [if_neg c] at hK
    have e : p + 0 = p := by grind
    rw [← e] at hK
    exact hK
theorem w_iceOf {E : ME} {d : Nat} {l y : Int32} {A : Nat → Nat → Int32} {B : Nat → Nat → Int64} {K : MK} (k : Nat) (hk : k < 9) (e : l = nI k) (hK : K (some (.int (fl (A 75 2) (A 75 (6 + k)) y))) (SH, A, B)) : mCall E (d + 2) nX9_iceOf [.ref 74, .int l, .int y] (SH, A, B) K := by
  subst e
  have e9 : 6 + nI k = nI (6 + k) := nI_add 6 k
  have e8 : (nI (6 + k)).toNatClampNeg = 6 + k := nI_clamp (by omega)
  refine mCall_sem MX9_iceOf rfl rfl (Or.inl ⟨rfl, rfl, rfl⟩) rfl (mSem_wp MX9_iceOf rfl aX9_iceOf 300 [] (fun cl ax hcl hax => ?_))
  refine ⟨by rw [e9]; exact vp_in_nI (N := 135) (by omega) (by decide), ?_⟩
  refine hcl _ _ _ _ (w_goesBy ?_)
  rw [← e8, ← e9] at hK
  exact hK
/-- the lane nearer to the middle -/
def nm (l : Int32) : Int32 := if l < 4 then l + 1 else if 4 < l then l - 1 else l
def nmN (k : Nat) : Nat := if k < 4 then k + 1 else if 4 < k then k - 1 else k
theorem nm_nI {k : Nat} (h : k < 9) : nm (nI k) = nI (nmN k) := by
  rcases (show k = 0 ∨ k = 1 ∨ k = 2 ∨ k = 3 ∨ k = 4 ∨ k = 5 ∨ k = 6 ∨ k = 7 ∨ k = 8 by omega) with rfl | rfl | rfl | rfl | rfl | rfl | rfl | rfl | rfl <;> rfl
theorem nmN_lt {k : Nat} (h : k < 9) : nmN k < 9 := by
  unfold nmN
  split
  · omega
  · split <;> omega
/-- a step: the kind, the hold, the year, how far the lane goes and the one nearer to the middle -/
def sd (kd hd y own nr : Int32) : Int32 := if kd = 1 then mx 0 (own - hd) else if kd = 2 then mx own nr else if kd = 3 then (if y - y / 2 * 2 = 0 then 0 else mx 0 (own - hd)) else if kd = 4 then mx own nr + 3 else if kd = 5 then own / 2 else own
theorem w_nearer {E : ME} {d : Nat} {l : Int32} {h : MH} {K : MK} (hK : K (some (.int (nm l))) h) : mCall E d nX2_nearerMiddle [.int l] h K := by
  refine mCall_sem MX2_nearerMiddle rfl rfl (Or.inl ⟨rfl, rfl, rfl⟩) rfl (mSem_wp MX2_nearerMiddle rfl aX2_nearerMiddle 300 [] (fun cl ax hcl hax => ?_))
  unfold nm at hK
  refine ⟨fun c => ⟨fun c2 => ?_, fun c2 => ?_⟩, fun c => ?_⟩
  · rw [if_neg (by grind), if_pos (by grind)] at hK; exact hK
  · rw [if_pos (by grind)] at hK; exact hK
  · subst c
    exact hK
theorem w_stride {E : ME} {d : Nat} {kd l hd y : Int32} {A : Nat → Nat → Int32} {B : Nat → Nat → Int64} {K : MK} (k : Nat) (hk : k < 9) (e : l = nI k) (hK : K (some (.int (sd kd hd y (fl (A 2 1) (A 3 k) y) (fl (A 2 1) (A 3 (nmN k)) y)))) (SH, A, B)) : mCall E (d + 2) nX2_stride [.ref 2, .int kd, .int l, .int hd, .int y] (SH, A, B) K := by
  subst e
  unfold sd at hK
  refine mCall_sem MX2_stride rfl rfl (Or.inl ⟨rfl, rfl, rfl⟩) rfl (mSem_wp MX2_stride rfl aX2_stride 300 [] (fun cl ax hcl hax => ?_))
  refine hcl _ _ _ _ (w_flow k hk rfl ?_)
  refine ⟨fun (c1 : kd = 1) => ?_, fun (c1 : ¬ kd = 1) => ⟨fun (c2 : kd = 2) => ?_, fun (c2 : ¬ kd = 2) => ⟨fun (c3 : kd = 3) => ?_, fun (c3 : ¬ kd = 3) => ⟨fun (c4 : kd = 4) => ?_, fun (c4 : ¬ kd = 4) => ⟨fun (c5 : kd = 5) => ?_, fun (c5 : ¬ kd = 5) => ?_⟩⟩⟩⟩⟩
  · rw [if_pos c1] at hK
    exact hK
  · rw [if_neg c1, if_pos c2] at hK
    refine hcl _ _ _ _ (w_nearer ?_)
    refine hcl _ _ _ _ (w_flow (nmN k) (nmN_lt hk) (nm_nI hk) ?_)
    exact hK
  · rw [if_neg c1, if_neg c2, if_pos c3] at hK
    refine ⟨by decide, ?_⟩
    refine ⟨fun c6 => ?_, fun c6 => ?_⟩
    · rw [if_neg c6] at hK
      exact hK
    · rw [if_pos c6] at hK
      exact hK
  · rw [if_neg c1, if_neg c2, if_neg c3, if_pos c4] at hK
    refine hcl _ _ _ _ (w_nearer ?_)
    refine hcl _ _ _ _ (w_flow (nmN k) (nmN_lt hk) (nm_nI hk) ?_)
    exact hK
  · rw [if_neg c1, if_neg c2, if_neg c3, if_neg c4, if_pos c5] at hK
    refine ⟨by decide, ?_⟩
    exact hK
  · rw [if_neg c1, if_neg c2, if_neg c3, if_neg c4, if_neg c5] at hK
    exact hK
theorem w_quicker {E : ME} {d : Nat} {l y : Int32} {A : Nat → Nat → Int32} {B : Nat → Nat → Int64} {K : MK} (k : Nat) (hk : k < 9) (e : l = nI k) (hK : K (some (.int (mx (fl (A 75 2) (A 75 (6 + k)) y) (fl (A 75 2) (A 75 (6 + nmN k)) y)))) (SH, A, B)) : mCall E (d + 3) nX9_quicker [.ref 74, .int l, .int y] (SH, A, B) K := by
  subst e
  have hn := nm_nI hk
  unfold nm at hn
  refine mCall_sem MX9_quicker rfl rfl (Or.inl ⟨rfl, rfl, rfl⟩) rfl (mSem_wp MX9_quicker rfl aX9_quicker 300 [] (fun cl ax hcl hax => ?_))
  refine ⟨fun c => ⟨fun c2 => ?_, fun c2 => ?_⟩, fun c => ?_⟩
  · rw [if_neg (by grind), if_neg (by grind)] at hn
    refine hcl _ _ _ _ (w_iceOf k hk rfl ?_)
    refine hcl _ _ _ _ (w_iceOf (nmN k) (nmN_lt hk) hn ?_)
    exact hK
  · rw [if_neg (by grind), if_pos (by grind)] at hn
    refine hcl _ _ _ _ (w_iceOf k hk rfl ?_)
    refine hcl _ _ _ _ (w_iceOf (nmN k) (nmN_lt hk) hn ?_)
    exact hK
  · rw [if_pos (by grind)] at hn
    refine hcl _ _ _ _ (w_iceOf k hk rfl ?_)
    refine hcl _ _ _ _ (w_iceOf (nmN k) (nmN_lt hk) hn ?_)
    exact hK
theorem w_stepOf {E : ME} {d : Nat} {kd l hd y : Int32} {A : Nat → Nat → Int32} {B : Nat → Nat → Int64} {K : MK} (k : Nat) (hk : k < 9) (e : l = nI k) (hK : K (some (.int (sd kd hd y (fl (A 75 2) (A 75 (6 + k)) y) (fl (A 75 2) (A 75 (6 + nmN k)) y)))) (SH, A, B)) : mCall E (d + 4) nX9_stepOf [.ref 74, .int kd, .int l, .int hd, .int y] (SH, A, B) K := by
  subst e
  unfold sd at hK
  refine mCall_sem MX9_stepOf rfl rfl (Or.inl ⟨rfl, rfl, rfl⟩) rfl (mSem_wp MX9_stepOf rfl aX9_stepOf 300 [] (fun cl ax hcl hax => ?_))
  refine hcl _ _ _ _ (w_iceOf k hk rfl ?_)
  refine ⟨fun (c1 : kd = 1) => ?_, fun (c1 : ¬ kd = 1) => ⟨fun (c2 : kd = 2) => ?_, fun (c2 : ¬ kd = 2) => ⟨fun (c3 : kd = 3) => ?_, fun (c3 : ¬ kd = 3) => ⟨fun (c4 : kd = 4) => ?_, fun (c4 : ¬ kd = 4) => ⟨fun (c5 : kd = 5) => ?_, fun (c5 : ¬ kd = 5) => ?_⟩⟩⟩⟩⟩
  · rw [if_pos c1] at hK
    exact hK
  · rw [if_neg c1, if_pos c2] at hK
    exact hcl _ _ _ _ (w_quicker k hk rfl hK)
  · rw [if_neg c1, if_neg c2, if_pos c3] at hK
    refine ⟨by decide, ?_⟩
    refine ⟨fun c6 => ?_, fun c6 => ?_⟩
    · rw [if_neg c6] at hK
      exact hK
    · rw [if_pos c6] at hK
      exact hK
  · rw [if_neg c1, if_neg c2, if_neg c3, if_pos c4] at hK
    exact hcl _ _ _ _ (w_quicker k hk rfl hK)
  · rw [if_neg c1, if_neg c2, if_neg c3, if_neg c4, if_pos c5] at hK
    refine ⟨by decide, ?_⟩
    exact hK
  · rw [if_neg c1, if_neg c2, if_neg c3, if_neg c4, if_neg c5] at hK
    exact hK
