/-! THE DRAFT -/
theorem lp_take49_4 {E : ME} {d : Nat} {A A0 : Nat → Nat → Int32} {B : Nat → Nat → Int64} {K : MK} {k : Nat} (hk : k ≤ 12) (hx : A 49 0 = nI k) (hg : ∀ j, j < k → A 9 j = 0 ∨ A 9 j = 1) (hK : ∀ v, same5 k A 5 6 7 8 9 v → K none (SH, nb5 A 50 51 52 53 54 v, B)) : ∀ t : Nat × (Nat → Int32) × (Nat → Int32) × (Nat → Int32) × (Nat → Int32) × (Nat → Int32), (t.1 ≤ k ∧ same5 t.1 A 5 6 7 8 9 t.2) → mSem E d nX1_takeFrom (SH, A0, B) 0 0 K 10 [some (.ref 49), some (.ref 4), some (.int (nI t.1))] [] (SH, nb5 A 50 51 52 53 54 t.2, B) := by
  refine mSem_loop (σ := Nat × (Nat → Int32) × (Nat → Int32) × (Nat → Int32) × (Nat → Int32) × (Nat → Int32)) (h0 := (SH, A0, B)) MX1_takeFrom rfl aX1_takeFrom 300 [10] (fun t => [some (.ref 49), some (.ref 4), some (.int (nI t.1))]) (fun t => (SH, nb5 A 50 51 52 53 54 t.2, B)) (fun t => t.1 ≤ k ∧ same5 t.1 A 5 6 7 8 9 t.2) (fun t => k - t.1) ?_
  rintro ⟨j, f1, f2, f3, f4, f5⟩ ⟨hj, hR⟩ cl ax hcl hax hlp
  have hj : j ≤ k := hj
  have e8 : (nI j).toNatClampNeg = j := nI_clamp (by omega)
  refine ⟨fun (c0 : A 49 0 ≤ nI j) => ?_, fun (c0 : ¬ A 49 0 ≤ nI j) => ?_⟩
  · rw [hx, nI_leI (by omega) (by omega)] at c0
    have : j = k := by omega
    subst this
    exact hK _ hR
  · rw [hx, nI_leI (by omega) (by omega)] at c0
    have hv : vp_in (nI j) 12 := vp_in_nI (by omega) (by decide)
    have en : vp_nar .boolean (A 9 (nI j).toNatClampNeg) = A 9 j := by
      rw [e8]
      rcases hg j (by omega) with q | q <;> (rw [q]; decide)
    have this : ax 10 [some (.ref 49), some (.ref 4), some (.int (nI j + 1))] [] (SH, nb5 A 50 51 52 53 54 (upd f1 (nI j).toNatClampNeg (A 5 (nI j).toNatClampNeg), upd f2 (nI j).toNatClampNeg (A 6 (nI j).toNatClampNeg), upd f3 (nI j).toNatClampNeg (A 7 (nI j).toNatClampNeg), upd f4 (nI j).toNatClampNeg (A 8 (nI j).toNatClampNeg), upd f5 (nI j).toNatClampNeg (vp_nar .boolean (A 9 (nI j).toNatClampNeg))), B) := by
      rw [nI_1]
      exact hlp (j + 1, _, _, _, _, _) ⟨by show j + 1 ≤ k; omega, same5_go hR (by omega) en⟩ (by show k - (j + 1) < k - j; omega)
    unfold nb5 at this
    rw [← up_n5 f1 f2 f3 f4 f5 (by decide) (by decide) (by decide) (by decide) (by decide) (by decide) (by decide) (by decide) (by decide) (by decide)] at this
    refine ⟨hv, ?_⟩
    refine ⟨hv, ?_⟩
    refine ⟨hv, ?_⟩
    refine ⟨hv, ?_⟩
    refine ⟨hv, ?_⟩
    refine ⟨hv, ?_⟩
    refine ⟨hv, ?_⟩
    refine ⟨hv, ?_⟩
    refine ⟨hv, ?_⟩
    refine ⟨hv, ?_⟩
    exact this
theorem w_take49_4 {E : ME} {d : Nat} {A : Nat → Nat → Int32} {B : Nat → Nat → Int64} {K : MK} {k : Nat} (hk : k ≤ 12) (hx : A 4 0 = nI k) (hg : ∀ j, j < k → A 9 j = 0 ∨ A 9 j = 1) (hK : ∀ v, same5 k A 5 6 7 8 9 v → K none (SH, nb5 (va_up A 49 (upd (A 49) 0 (A 4 0))) 50 51 52 53 54 v, B)) : mCall E d nX1_takeFrom [.ref 49, .ref 4] (SH, A, B) K := by
  refine mCall_sem MX1_takeFrom rfl rfl (Or.inl ⟨rfl, rfl, rfl⟩) rfl (mSem_wp MX1_takeFrom rfl aX1_takeFrom 300 [10] (fun cl ax hcl hax => ?_))
  have e : nb5 (va_up A 49 (upd (A 49) 0 (A 4 0))) 50 51 52 53 54 (A 50, A 51, A 52, A 53, A 54) = va_up A 49 (upd (A 49) 0 (A 4 0)) := by
    funext q
    unfold nb5 va_up
    split
    · rename_i c; rw [c]; rfl
    split
    · rename_i c; rw [c]; rfl
    split
    · rename_i c; rw [c]; rfl
    split
    · rename_i c; rw [c]; rfl
    split
    · rename_i c; rw [c]; rfl
    rfl
  have this := lp_take49_4 (E := E) (d := d) (A := va_up A 49 (upd (A 49) 0 (A 4 0))) (A0 := A) (B := B) (K := K) hk hx hg hK (0, A 50, A 51, A 52, A 53, A 54) ⟨by omega, fun q hq => absurd hq (by simp)⟩
  rw [show (0, A 50, A 51, A 52, A 53, A 54).2 = (A 50, A 51, A 52, A 53, A 54) from rfl, e] at this
  exact hax _ _ _ _ this
theorem w_iceT46_1 {E : ME} {d : Nat} {A : Nat → Nat → Int32} {B : Nat → Nat → Int64} {K : MK} (hK : K none (SH, va_up (va_up A 47 (upd (upd (upd (A 47) 0 (A 2 0)) 1 (A 2 1)) 2 (A 2 2))) 48 (va_cpy (A 3) (A 48) 0 0 9), B)) : mCall E (d + 1) nX2_takeFrom [.ref 47, .ref 2] (SH, A, B) K := by
  rw [← up3 (a := 47) (upd (A 47) 0 (A 2 0)) (upd (upd (A 47) 0 (A 2 0)) 1 (A 2 1))] at hK
  refine mCall_sem MX2_takeFrom rfl rfl (Or.inl ⟨rfl, rfl, rfl⟩) rfl (mSem_wp MX2_takeFrom rfl aX2_takeFrom 300 [] (fun cl ax hcl hax => ?_))
  exact ⟨by decide, by decide, by decide, by decide, by decide, hK⟩
theorem w_deeT46_1 {E : ME} {d : Nat} {A : Nat → Nat → Int32} {B : Nat → Nat → Int64} {K : MK} (hK : K none (SH, va_up (va_up (va_up A 55 (upd (A 55) 0 (A 10 0))) 56 (va_cpy (A 11) (A 56) 0 0 10)) 57 (va_cpy (A 12) (A 57) 0 0 10), B)) : mCall E (d + 1) nX0_takeFrom [.ref 55, .ref 10] (SH, A, B) K := by
  refine mCall_sem MX0_takeFrom rfl rfl (Or.inl ⟨rfl, rfl, rfl⟩) rfl (mSem_wp MX0_takeFrom rfl aX0_takeFrom 300 [] (fun cl ax hcl hax => ?_))
  refine ⟨by decide, by decide, by decide, by decide, by decide, ?_⟩
  exact ⟨by decide, by decide, by decide, by decide, by decide, hK⟩
theorem w_staT46_1 {E : ME} {d : Nat} {A : Nat → Nat → Int32} {B : Nat → Nat → Int64} {K : MK} (hK : K none (SH, va_up (va_up (va_up (va_up (va_up A 58 (upd (A 58) 0 (A 13 0))) 59 (va_cpy (A 14) (A 59) 0 0 10)) 60 (va_cpy (A 15) (A 60) 0 0 10)) 61 (va_cpy (A 16) (A 61) 0 0 10)) 62 (va_cpy (A 17) (A 62) 0 0 10), B)) : mCall E (d + 1) nX4_takeFrom [.ref 58, .ref 13] (SH, A, B) K := by
  refine mCall_sem MX4_takeFrom rfl rfl (Or.inl ⟨rfl, rfl, rfl⟩) rfl (mSem_wp MX4_takeFrom rfl aX4_takeFrom 300 [] (fun cl ax hcl hax => ?_))
  refine ⟨by decide, by decide, by decide, by decide, by decide, ?_⟩
  refine ⟨by decide, by decide, by decide, by decide, by decide, ?_⟩
  refine ⟨by decide, by decide, by decide, by decide, by decide, ?_⟩
  exact ⟨by decide, by decide, by decide, by decide, by decide, hK⟩
def TK46 (A : Nat → Nat → Int32) (I P H D D1 D2 S S1 S2 S3 S4 : Nat → Int32) (v : (Nat → Int32) × (Nat → Int32) × (Nat → Int32) × (Nat → Int32) × (Nat → Int32)) : Nat → Nat → Int32 := va_up (va_up (va_up (va_up (va_up (va_up (va_up (va_up (nb5 (va_up (va_up (va_up A 47 I) 48 P) 49 H) 50 51 52 53 54 v) 55 D) 56 D1) 57 D2) 58 S) 59 S1) 60 S2) 61 S3) 62 S4
theorem w_town46_1 {E : ME} {d : Nat} {A : Nat → Nat → Int32} {B : Nat → Nat → Int64} {K : MK} {k : Nat} (hk : k ≤ 12) (hx : A 4 0 = nI k) (hg : ∀ j, j < k → A 9 j = 0 ∨ A 9 j = 1) (hK : ∀ I P H D D1 D2 S S1 S2 S3 S4 v, (I 0 = A 2 0 ∧ I 1 = A 2 1 ∧ I 2 = A 2 2) → (∀ q, q < 9 → P q = A 3 q) → H 0 = A 4 0 → same5 k A 5 6 7 8 9 v → D 0 = A 10 0 → (∀ q, q < 10 → D1 q = A 11 q) → (∀ q, q < 10 → D2 q = A 12 q) → S 0 = A 13 0 → (∀ q, q < 10 → S1 q = A 14 q) → (∀ q, q < 10 → S2 q = A 15 q) → (∀ q, q < 10 → S3 q = A 16 q) → (∀ q, q < 10 → S4 q = A 17 q) → K none (SH, TK46 A I P H D D1 D2 S S1 S2 S3 S4 v, B)) : mCall E (d + 2) nX7_takeFrom [.ref 46, .ref 1] (SH, A, B) K := by
  refine mCall_sem MX7_takeFrom rfl rfl (Or.inl ⟨rfl, rfl, rfl⟩) rfl (mSem_wp MX7_takeFrom rfl aX7_takeFrom 300 [] (fun cl ax hcl hax => ?_))
  refine hcl _ _ _ _ (w_iceT46_1 ?_)
  refine hcl _ _ _ _ (w_take49_4 hk hx hg (fun v hv => ?_))
  refine hcl _ _ _ _ (w_deeT46_1 ?_)
  refine hcl _ _ _ _ (w_staT46_1 ?_)
  exact hK _ _ _ _ _ _ _ _ _ _ _ v ⟨rfl, rfl, rfl⟩ (fun q hq => cpy_lt hq) rfl hv rfl (fun q hq => cpy_lt hq) (fun q hq => cpy_lt hq) rfl (fun q hq => cpy_lt hq) (fun q hq => cpy_lt hq) (fun q hq => cpy_lt hq) (fun q hq => cpy_lt hq)
theorem w_build49 {E : ME} {d : Nat} {kd ln ft hd : Int32} {A : Nat → Nat → Int32} {B : Nat → Nat → Int64} {K : MK} {k : Nat} (hk : k < 12) (hx : A 49 0 = nI k) (hK : K (some (.int (nI k))) (SH, va_up (va_up (va_up (va_up (va_up (va_up A 50 (upd (A 50) k kd)) 51 (upd (A 51) k ln)) 52 (upd (A 52) k ft)) 53 (upd (A 53) k hd)) 54 (upd (A 54) k 0)) 49 (upd (A 49) 0 (nI (k + 1))), B)) : mCall E d nX1_build [.ref 49, .int kd, .int ln, .int ft, .int hd] (SH, A, B) K := by
  have e8 : k = (A 49 0).toNatClampNeg := by rw [hx, nI_clamp (by omega)]
  have hv : vp_in (A 49 0) 12 := by rw [hx]; exact vp_in_nI hk (by decide)
  have e7 : A 49 0 + 1 - 1 = nI k := by rw [hx]; grind
  have e6 : nI (k + 1) = A 49 0 + 1 := by rw [hx]; exact (nI_1 k).symm
  rw [← e7, e6, e8] at hK
  refine mCall_sem MX1_build rfl rfl (Or.inl ⟨rfl, rfl, rfl⟩) rfl (mSem_wp MX1_build rfl aX1_build 300 [] (fun cl ax hcl hax => ?_))
  refine ⟨hv, ?_⟩
  refine ⟨hv, ?_⟩
  refine ⟨hv, ?_⟩
  refine ⟨hv, ?_⟩
  refine ⟨hv, ?_⟩
  exact hK
theorem w_drive58 {E : ME} {d : Nat} {ln ft sp wy : Int32} {A : Nat → Nat → Int32} {B : Nat → Nat → Int64} {K : MK} {k : Nat} (hk : k < 10) (hx : A 58 0 = nI k) (hK : K (some (.int (nI k))) (SH, va_up (va_up (va_up (va_up (va_up A 59 (upd (A 59) k ln)) 60 (upd (A 60) k ft)) 61 (upd (A 61) k sp)) 62 (upd (A 62) k wy)) 58 (upd (A 58) 0 (nI (k + 1))), B)) : mCall E d nX4_drive [.ref 58, .int ln, .int ft, .int sp, .int wy] (SH, A, B) K := by
  have e8 : k = (A 58 0).toNatClampNeg := by rw [hx, nI_clamp (by omega)]
  have hv : vp_in (A 58 0) 10 := by rw [hx]; exact vp_in_nI hk (by decide)
  have e7 : A 58 0 + 1 - 1 = nI k := by rw [hx]; grind
  have e6 : nI (k + 1) = A 58 0 + 1 := by rw [hx]; exact (nI_1 k).symm
  rw [← e7, e6, e8] at hK
  refine mCall_sem MX4_drive rfl rfl (Or.inl ⟨rfl, rfl, rfl⟩) rfl (mSem_wp MX4_drive rfl aX4_drive 300 [] (fun cl ax hcl hax => ?_))
  refine ⟨hv, ?_⟩
  refine ⟨hv, ?_⟩
  refine ⟨hv, ?_⟩
  refine ⟨hv, ?_⟩
  exact hK
theorem lp_anyAt49 {E : ME} {d : Nat} {A : Nat → Nat → Int32} {B : Nat → Nat → Int64} {K : MK} {k : Nat} {v : Int32} (hk : k ≤ 12) (hx : A 49 0 = nI k) (k1 : (∃ i, i < k ∧ A 54 i = 0 ∧ v ≤ A 52 i) → K (some (.int 1)) (SH, A, B)) (k0 : (¬ ∃ i, i < k ∧ A 54 i = 0 ∧ v ≤ A 52 i) → K (some (.int 0)) (SH, A, B)) : ∀ j, (j ≤ k ∧ ∀ i, i < j → ¬ (A 54 i = 0 ∧ v ≤ A 52 i)) → mSem E d nX1_anyAtOrPast (SH, A, B) 0 0 K 2 [some (.ref 49), some (.int v), some (.int (nI j))] [] (SH, A, B) := by
  refine mSem_loop MX1_anyAtOrPast rfl aX1_anyAtOrPast 300 [2] (fun j => [some (.ref 49), some (.int v), some (.int (nI j))]) (fun j => (SH, A, B)) (fun j => j ≤ k ∧ ∀ i, i < j → ¬ (A 54 i = 0 ∧ v ≤ A 52 i)) (fun j => k - j) ?_
  intro j hj cl ax hcl hax hlp
  obtain ⟨hj, hn⟩ := hj
  have e8 : (nI j).toNatClampNeg = j := nI_clamp (by omega)
  refine ⟨fun c => ?_, fun c => ?_⟩
  · have c : A 49 0 ≤ nI j := c
    rw [hx, nI_leI (by omega) (by omega)] at c
    have : j = k := by omega
    subst this
    exact ⟨rfl, k0 (fun ⟨i, i1, i2⟩ => hn i i1 i2)⟩
  · have c : ¬ A 49 0 ≤ nI j := c
    rw [hx, nI_leI (by omega) (by omega)] at c
    refine ⟨vp_in_nI (N := 12) (by omega) (by decide), ?_⟩
    have this : ¬ (A 54 j = 0 ∧ v ≤ A 52 j) → ax 2 [some (.ref 49), some (.int v), some (.int (nI (j + 1)))] [] (SH, A, B) := fun q => hlp (j + 1) ⟨by omega, fun i hi => by
      by_cases e : i = j
      · subst e; exact q
      · exact hn i (by omega)⟩ (by omega)
    rw [← nI_1] at this
    refine ⟨fun c2 => ?_, fun c2 => ?_⟩
    · have c2 : ¬ A 54 (nI j).toNatClampNeg = 0 := c2
      rw [e8] at c2
      exact this (fun q => c2 q.1)
    · have c2 : A 54 (nI j).toNatClampNeg = 0 := c2
      rw [e8] at c2
      refine ⟨vp_in_nI (N := 12) (by omega) (by decide), ?_⟩
      refine ⟨fun c3 => ?_, fun c3 => ?_⟩
      · have c3 : A 52 (nI j).toNatClampNeg < v := c3
        rw [e8] at c3
        exact this (fun q => by grind)
      · have c3 : ¬ A 52 (nI j).toNatClampNeg < v := c3
        rw [e8] at c3
        exact ⟨rfl, k1 ⟨j, by omega, c2, by grind⟩⟩
theorem w_anyAt49 {E : ME} {d : Nat} {A : Nat → Nat → Int32} {B : Nat → Nat → Int64} {K : MK} {k : Nat} {v : Int32} (hk : k ≤ 12) (hx : A 49 0 = nI k) (k1 : (∃ i, i < k ∧ A 54 i = 0 ∧ v ≤ A 52 i) → K (some (.int 1)) (SH, A, B)) (k0 : (¬ ∃ i, i < k ∧ A 54 i = 0 ∧ v ≤ A 52 i) → K (some (.int 0)) (SH, A, B)) : mCall E d nX1_anyAtOrPast [.ref 49, .int v] (SH, A, B) K := by
  refine mCall_sem MX1_anyAtOrPast rfl rfl (Or.inl ⟨rfl, rfl, rfl⟩) rfl (mSem_wp MX1_anyAtOrPast rfl aX1_anyAtOrPast 300 [2] (fun cl ax hcl hax => ?_))
  exact hax _ _ _ _ (lp_anyAt49 hk hx k1 k0 0 ⟨by omega, fun i hi => by omega⟩)
/-- the draft as if it were the town, by the row V -/
def PH (A : Nat → Nat → Int32) (V : Nat → Int32) : Nat → Nat → Int32 := va_up (va_up (va_up (va_up (va_up (va_up (va_up (va_up (va_up (va_up (va_up (va_up (va_up (va_up (va_up (va_up (va_up (fun _ _ => 0) 2 (A 47)) 3 (A 48)) 4 (A 49)) 5 (A 50)) 6 (A 51)) 7 (A 52)) 8 (A 53)) 9 (A 54)) 10 (A 55)) 11 (A 56)) 12 (A 57)) 13 (A 58)) 14 (A 59)) 15 (A 60)) 16 (A 61)) 17 (A 62)) 75 V
def DR (A : Nat → Nat → Int32) (V : Nat → Int32) : Prop := rNow (PH A V)
theorem PH_all {A : Nat → Nat → Int32} {V : Nat → Int32} (h : DR A V) : rAll (PH A V) (fun _ _ => 0) := by
  refine ⟨h, ⟨rfl, Or.inl rfl⟩, ⟨fun j hj => rfl, show (0 : Int32) = 0 + 0 + 0 + 0 + 0 + 0 + 0 by decide⟩, ⟨0, by omega, rfl, rfl, fun j hj => absurd hj (by omega)⟩, ?_, ?_, ?_, ?_⟩
  · exact ⟨rfl, Or.inl rfl, ⟨0, by omega, rfl, rfl⟩, fun _ _ => rfl⟩
  · exact ⟨rfl, Or.inl rfl, ⟨0, by omega, rfl, rfl⟩, fun _ _ => rfl⟩
  · exact ⟨rfl, Or.inl rfl, ⟨0, by omega, rfl, rfl⟩, fun _ _ => rfl⟩
  · exact ⟨rfl, Or.inl rfl, ⟨0, by omega, rfl, rfl⟩, fun _ _ => rfl⟩
theorem DR_45 {A : Nat → Nat → Int32} {V F : Nat → Int32} (h : DR A V) : DR (va_up A 45 F) V := h
theorem DR_warm {A : Nat → Nat → Int32} {V : Nat → Int32} (h : DR A V) {v : Int32} (h0 : 0 ≤ v) (h1 : v ≤ 127) : DR (va_up A 47 (upd (A 47) 1 v)) (upd V 2 v) := (rAll_warm (PH_all h) h0 h1).1
theorem DR_pace {A : Nat → Nat → Int32} {V : Nat → Int32} (h : DR A V) {k : Nat} (hk : k < 9) {v : Int32} (h0 : 0 ≤ v) (h1 : v ≤ 60) : DR (va_up A 48 (upd (A 48) k v)) (upd V (6 + k) v) := (rAll_pace (PH_all h) hk h0 h1).1
theorem DR_edge {A : Nat → Nat → Int32} {V : Nat → Int32} (h : DR A V) {v : Int32} (h0 : 100 ≤ v) (h1 : v ≤ 9999) {k : Nat} (hk : V 3 = nI k) (hk2 : k ≤ 12) (hv : ¬ ∃ i, i < k ∧ ¬ V (19 + 5 * i) = 1 ∧ v ≤ V (17 + 5 * i)) : DR (va_up A 47 (upd (A 47) 0 v)) (upd V 0 v) := (rAll_edge (PH_all h) h0 h1 hk hk2 hv).1
theorem DR_house {A : Nat → Nat → Int32} {V : Nat → Int32} (h : DR A V) {k : Nat} (hk : k < 12) (hx : A 49 0 = nI k) (hm : V 3 = nI k) {kd ln ft hd : Int32} (q1 : 0 ≤ kd ∧ kd ≤ 5) (q2 : 0 ≤ ln ∧ ln ≤ 8) (q3 : 0 ≤ ft ∧ ft < V 0) (q4 : 0 ≤ hd ∧ hd ≤ 99) : DR (va_up (va_up (va_up (va_up (va_up (va_up A 50 (upd (A 50) k kd)) 51 (upd (A 51) k ln)) 52 (upd (A 52) k ft)) 53 (upd (A 53) k hd)) 54 (upd (A 54) k 0)) 49 (upd (A 49) 0 (nI (k + 1)))) (upd (upd (upd (upd (upd (upd V (15 + 5 * k) kd) (16 + 5 * k) ln) (17 + 5 * k) ft) (18 + 5 * k) hd) (19 + 5 * k) 0) 3 (nI (k + 1))) := (rAll_house (PH_all h) hk hx hm q1 q2 q3 q4).1
theorem DR_stake {A : Nat → Nat → Int32} {V : Nat → Int32} (h : DR A V) {k : Nat} (hk : k < 10) (hx : A 58 0 = nI k) (hm : V 5 = nI k) {ln ft sp wy : Int32} (q1 : 0 ≤ ft ∧ ft ≤ 999) (q2 : 1 ≤ sp ∧ sp ≤ 60) : DR (va_up (va_up (va_up (va_up (va_up A 59 (upd (A 59) k ln)) 60 (upd (A 60) k ft)) 61 (upd (A 61) k sp)) 62 (upd (A 62) k wy)) 58 (upd (A 58) 0 (nI (k + 1)))) (upd (upd (upd (upd (upd V (95 + 4 * k) ln) (96 + 4 * k) ft) (97 + 4 * k) sp) (98 + 4 * k) wy) 5 (nI (k + 1))) := (rAll_stake (PH_all h) hk hx hm q1 q2).1
theorem DR_VB {A : Nat → Nat → Int32} {V : Nat → Int32} (h : DR A V) : VB V := by
  obtain ⟨_, ⟨k, k1, k2, k3, _⟩, _, ⟨s, s1, s2, s3, _⟩⟩ := h
  exact ⟨⟨k, k1, k3⟩, ⟨s, s1, s3⟩⟩
theorem fa_b {N : Nat → Int32} : ∀ h, (∀ j, j < h → N (17 + 5 * j) ≤ 9999) → -1 ≤ fa N h ∧ fa N h ≤ 9999
  | 0, _ => by unfold fa; decide
  | h + 1, q => by
    have ih := fa_b h (fun j hj => q j (by omega))
    have z := q h (by omega)
    unfold fa
    split
    · exact ih
    · unfold mx
      generalize fa N h = x at ih ⊢
      generalize N (17 + 5 * h) = y at z ⊢
      clear q
      grind
theorem fr_b {A : Nat → Nat → Int32} {V : Nat → Int32} (h : DR A V) : -1 ≤ fr V ∧ fr V ≤ 9999 := by
  obtain ⟨_, ⟨k, k1, k2, k3, k4⟩, _⟩ := h
  have k3 : V 3 = nI k := k3
  unfold fr
  rw [k3, nI_clamp (by omega)]
  exact fa_b k (fun j hj => (k4 j hj).2.2.2.1.2)
