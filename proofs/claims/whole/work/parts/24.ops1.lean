/-! warm, goes, strain, crack, edge -/
theorem rAll_warm {A : Nat → Nat → Int32} {B : Nat → Nat → Int64} (h : rAll A B) {v : Int32} (h0 : 0 ≤ v) (h1 : v ≤ 127) : rAll (va_up (va_up A 2 (upd (A 2) 1 v)) 75 (upd (A 75) 2 v)) B := by
  obtain ⟨⟨hi, hh, hd, hs⟩, hk9, hf, ht, hsh⟩ := h
  have n : ∀ q, q ≠ 2 → upd (A 75) 2 v q = A 75 q := fun q hq => ud_n hq
  refine ⟨⟨?_, rHou_c hh rfl rfl rfl rfl rfl rfl (fun q hq => n q (by omega)), rDee_c hd rfl rfl rfl (fun q hq => n q (by omega)), rSta_c hs rfl rfl rfl rfl rfl (fun q hq => n q (by omega))⟩, hk9, hf, ht, hsh⟩
  obtain ⟨⟨e1, e2, e3⟩, e4, e5, e6, e7, e8⟩ := hi
  refine ⟨⟨e1, rfl, e3⟩, fun j hj => ?_, e5, e6, ⟨h0, h1⟩, fun j hj => ?_⟩
  · show A 3 j = upd (A 75) 2 v (6 + j)
    rw [n _ (by omega)]; exact e4 j hj
  · show 0 ≤ upd (A 75) 2 v (6 + j) ∧ upd (A 75) 2 v (6 + j) ≤ 60
    rw [n _ (by omega)]; exact e8 j hj
theorem op_warm {E : ME} {v : Int32} {A : Nat → Nat → Int32} {B : Nat → Nat → Int64} (h : rAll A B) : rOp E nX8_warm nX9_warm [.int v] A B := by
  have hice := h.1.1
  refine rOp_of (fun K hK => ?_)
  refine mCall_sem MX8_warm rfl rfl (Or.inl ⟨rfl, rfl, rfl⟩) rfl (mSem_wp MX8_warm rfl aX8_warm 300 [] (fun cl ax hcl hax => ?_))
  refine hcl _ _ _ _ (w_X8 (fun b1 b2 => ?_) (fun b0 => ?_))
  · refine ⟨fun _ => ?_, fun h9 => absurd h9 (by decide)⟩
    refine hK _ _ ?_
    clear hcl hax
    clear cl ax
    refine mCall_k (fun K hK => ?_)
    refine mCall_sem MX9_warm rfl rfl (Or.inl ⟨rfl, rfl, rfl⟩) rfl (mSem_wp MX9_warm rfl aX9_warm 300 [] (fun cl ax hcl hax => ?_))
    first | refine hcl _ _ _ _ (w_X9 (fun c1 c2 => absurd (And.intro c1 c2) (by assumption)) (fun _ => ?_)) | refine hcl _ _ _ _ (w_X9 (fun _ _ => ?_) (fun c0 => absurd (And.intro (by assumption) (by assumption)) c0))
    refine ⟨fun h9 => absurd h9 (by decide), fun _ => ?_⟩
    refine hcl _ _ _ _ (w_become 2 (by decide) rfl ?_)
    refine hK _ _ ⟨?_, rfl, rAll_warm h b1 b2⟩
    show some (Value.int (A 2 1)) = some (Value.int (A 75 2))
    rw [hice.1.2.1]
  · refine ⟨fun h9 => absurd h9 (by decide), fun _ => ?_⟩
    refine hcl _ _ _ _ (w_X8_refuse 0 (by decide) (by decide) ?_)
    refine hK _ _ ?_
    clear hcl hax
    clear cl ax
    refine mCall_k (fun K hK => ?_)
    refine mCall_sem MX9_warm rfl rfl (Or.inl ⟨rfl, rfl, rfl⟩) rfl (mSem_wp MX9_warm rfl aX9_warm 300 [] (fun cl ax hcl hax => ?_))
    first | refine hcl _ _ _ _ (w_X9 (fun c1 c2 => absurd (And.intro c1 c2) (by assumption)) (fun _ => ?_)) | refine hcl _ _ _ _ (w_X9 (fun _ _ => ?_) (fun c0 => absurd (And.intro (by assumption) (by assumption)) c0))
    refine ⟨fun _ => ?_, fun h9 => absurd h9 (by decide)⟩
    exact hcl _ _ _ _ (w_X9_finding 0 (by decide) (by decide) (hK _ _ (rEnd_cnt h (by decide))))
theorem op_goes {E : ME} {l y : Int32} {A : Nat → Nat → Int32} {B : Nat → Nat → Int64} (h : rAll A B) : rOp E nX8_goes nX9_goes [.int l, .int y] A B := by
  have hice := h.1.1
  refine rOp_of (fun K hK => ?_)
  refine mCall_sem MX8_goes rfl rfl (Or.inl ⟨rfl, rfl, rfl⟩) rfl (mSem_wp MX8_goes rfl aX8_goes 300 [] (fun cl ax hcl hax => ?_))
  refine hcl _ _ _ _ (w_X8_isLane (fun a1 a2 => ?_) (fun a0 => ?_))
  · refine ⟨fun h9 => absurd h9 (by decide), fun _ => ?_⟩
    refine hcl _ _ _ _ (w_X8 (fun b1 b2 => ?_) (fun b0 => ?_))
    · refine ⟨fun _ => ?_, fun h9 => absurd h9 (by decide)⟩
      obtain ⟨k, hk, rfl⟩ := ix_le 8 a1 a2 rfl
      refine hcl _ _ _ _ (w_flow k (by omega) rfl ?_)
      refine hK _ _ ?_
      clear hcl hax
      clear cl ax
      refine mCall_k (fun K hK => ?_)
      refine mCall_sem MX9_goes rfl rfl (Or.inl ⟨rfl, rfl, rfl⟩) rfl (mSem_wp MX9_goes rfl aX9_goes 300 [] (fun cl ax hcl hax => ?_))
      first | refine hcl _ _ _ _ (w_X9_isLane (fun c1 c2 => absurd (And.intro c1 c2) (by assumption)) (fun _ => ?_)) | refine hcl _ _ _ _ (w_X9_isLane (fun _ _ => ?_) (fun c0 => absurd (And.intro (by assumption) (by assumption)) c0))
      refine ⟨fun h9 => absurd h9 (by decide), fun _ => ?_⟩
      first | refine hcl _ _ _ _ (w_X9_isYear (fun c1 c2 => absurd (And.intro c1 c2) (by assumption)) (fun _ => ?_)) | refine hcl _ _ _ _ (w_X9_isYear (fun _ _ => ?_) (fun c0 => absurd (And.intro (by assumption) (by assumption)) c0))
      refine ⟨fun h9 => absurd h9 (by decide), fun _ => ?_⟩
      refine hcl _ _ _ _ (w_iceOf k (by omega) rfl ?_)
      refine hK _ _ ⟨?_, rfl, h⟩
      rw [hice.1.2.1, hice.2.1 k (by omega)]
    · refine ⟨fun h9 => absurd h9 (by decide), fun _ => ?_⟩
      refine hcl _ _ _ _ (w_X8_refuse 0 (by decide) (by decide) ?_)
      refine hK _ _ ?_
      clear hcl hax
      clear cl ax
      refine mCall_k (fun K hK => ?_)
      refine mCall_sem MX9_goes rfl rfl (Or.inl ⟨rfl, rfl, rfl⟩) rfl (mSem_wp MX9_goes rfl aX9_goes 300 [] (fun cl ax hcl hax => ?_))
      first | refine hcl _ _ _ _ (w_X9_isLane (fun c1 c2 => absurd (And.intro c1 c2) (by assumption)) (fun _ => ?_)) | refine hcl _ _ _ _ (w_X9_isLane (fun _ _ => ?_) (fun c0 => absurd (And.intro (by assumption) (by assumption)) c0))
      refine ⟨fun h9 => absurd h9 (by decide), fun _ => ?_⟩
      first | refine hcl _ _ _ _ (w_X9_isYear (fun c1 c2 => absurd (And.intro c1 c2) (by assumption)) (fun _ => ?_)) | refine hcl _ _ _ _ (w_X9_isYear (fun _ _ => ?_) (fun c0 => absurd (And.intro (by assumption) (by assumption)) c0))
      refine ⟨fun _ => ?_, fun h9 => absurd h9 (by decide)⟩
      exact hcl _ _ _ _ (w_X9_finding 0 (by decide) (by decide) (hK _ _ (rEnd_cnt h (by decide))))
  · refine ⟨fun _ => ?_, fun h9 => absurd h9 (by decide)⟩
    refine hcl _ _ _ _ (w_X8_refuse 0 (by decide) (by decide) ?_)
    refine hK _ _ ?_
    clear hcl hax
    clear cl ax
    refine mCall_k (fun K hK => ?_)
    refine mCall_sem MX9_goes rfl rfl (Or.inl ⟨rfl, rfl, rfl⟩) rfl (mSem_wp MX9_goes rfl aX9_goes 300 [] (fun cl ax hcl hax => ?_))
    first | refine hcl _ _ _ _ (w_X9_isLane (fun c1 c2 => absurd (And.intro c1 c2) (by assumption)) (fun _ => ?_)) | refine hcl _ _ _ _ (w_X9_isLane (fun _ _ => ?_) (fun c0 => absurd (And.intro (by assumption) (by assumption)) c0))
    refine ⟨fun _ => ?_, fun h9 => absurd h9 (by decide)⟩
    exact hcl _ _ _ _ (w_X9_finding 0 (by decide) (by decide) (hK _ _ (rEnd_cnt h (by decide))))
/-- the strain between lanes k and k + 1 -/
def sn (w : Int32) (P : Nat → Int32) (k : Nat) (y : Int32) : Int32 := ab (fl w (P k) y - fl w (P (k + 1)) y)
theorem w_shear {E : ME} {d : Nat} {l y : Int32} {A : Nat → Nat → Int32} {B : Nat → Nat → Int64} {K : MK} (k : Nat) (hk : k < 8) (e : l = nI k) (hK : K (some (.int (sn (A 2 1) (A 3) k y))) (SH, A, B)) : mCall E (d + 2) nX2_shear [.ref 2, .int l, .int y] (SH, A, B) K := by
  subst e
  refine mCall_sem MX2_shear rfl rfl (Or.inl ⟨rfl, rfl, rfl⟩) rfl (mSem_wp MX2_shear rfl aX2_shear 300 [] (fun cl ax hcl hax => ?_))
  refine hcl _ _ _ _ (w_flow k (by omega) rfl ?_)
  refine hcl _ _ _ _ (w_flow (k + 1) (by omega) (nI_1 k) ?_)
  exact hK
theorem w_strainOf {E : ME} {d : Nat} {l y : Int32} {A : Nat → Nat → Int32} {B : Nat → Nat → Int64} {K : MK} (k : Nat) (hk : k < 8) (e : l = nI k) (hK : K (some (.int (sn (A 75 2) (fun q => A 75 (6 + q)) k y))) (SH, A, B)) : mCall E (d + 3) nX9_strainOf [.ref 74, .int l, .int y] (SH, A, B) K := by
  subst e
  refine mCall_sem MX9_strainOf rfl rfl (Or.inl ⟨rfl, rfl, rfl⟩) rfl (mSem_wp MX9_strainOf rfl aX9_strainOf 300 [] (fun cl ax hcl hax => ?_))
  refine hcl _ _ _ _ (w_iceOf k (by omega) rfl ?_)
  refine hcl _ _ _ _ (w_iceOf (k + 1) (by omega) (nI_1 k) ?_)
  exact hK
theorem sn_eq {A : Nat → Nat → Int32} (h : rIce A 2 3 75) {k : Nat} (hk : k < 8) (y : Int32) : sn (A 2 1) (A 3) k y = sn (A 75 2) (fun q => A 75 (6 + q)) k y := by
  unfold sn
  rw [h.1.2.1, h.2.1 k (by omega), h.2.1 (k + 1) (by omega)]
theorem op_strain {E : ME} {l y : Int32} {A : Nat → Nat → Int32} {B : Nat → Nat → Int64} (h : rAll A B) : rOp E nX8_strain nX9_strain [.int l, .int y] A B := by
  have hice := h.1.1
  refine rOp_of (fun K hK => ?_)
  refine mCall_sem MX8_strain rfl rfl (Or.inl ⟨rfl, rfl, rfl⟩) rfl (mSem_wp MX8_strain rfl aX8_strain 300 [] (fun cl ax hcl hax => ?_))
  refine hcl _ _ _ _ (w_X8 (fun a1 a2 => ?_) (fun a0 => ?_))
  · refine ⟨fun h9 => absurd h9 (by decide), fun _ => ?_⟩
    refine hcl _ _ _ _ (w_X8 (fun b1 b2 => ?_) (fun b0 => ?_))
    · refine ⟨fun _ => ?_, fun h9 => absurd h9 (by decide)⟩
      obtain ⟨k, hk, rfl⟩ := ix_le 7 a1 a2 rfl
      refine hcl _ _ _ _ (w_shear k (by omega) rfl ?_)
      refine hK _ _ ?_
      clear hcl hax
      clear cl ax
      refine mCall_k (fun K hK => ?_)
      refine mCall_sem MX9_strain rfl rfl (Or.inl ⟨rfl, rfl, rfl⟩) rfl (mSem_wp MX9_strain rfl aX9_strain 300 [] (fun cl ax hcl hax => ?_))
      first | refine hcl _ _ _ _ (w_X9 (fun c1 c2 => absurd (And.intro c1 c2) (by assumption)) (fun _ => ?_)) | refine hcl _ _ _ _ (w_X9 (fun _ _ => ?_) (fun c0 => absurd (And.intro (by assumption) (by assumption)) c0))
      refine ⟨fun h9 => absurd h9 (by decide), fun _ => ?_⟩
      first | refine hcl _ _ _ _ (w_X9_isYear (fun c1 c2 => absurd (And.intro c1 c2) (by assumption)) (fun _ => ?_)) | refine hcl _ _ _ _ (w_X9_isYear (fun _ _ => ?_) (fun c0 => absurd (And.intro (by assumption) (by assumption)) c0))
      refine ⟨fun h9 => absurd h9 (by decide), fun _ => ?_⟩
      refine hcl _ _ _ _ (w_strainOf k (by omega) rfl ?_)
      refine hK _ _ ⟨?_, rfl, h⟩
      rw [sn_eq hice (by omega)]
    · refine ⟨fun h9 => absurd h9 (by decide), fun _ => ?_⟩
      refine hcl _ _ _ _ (w_X8_refuse 0 (by decide) (by decide) ?_)
      refine hK _ _ ?_
      clear hcl hax
      clear cl ax
      refine mCall_k (fun K hK => ?_)
      refine mCall_sem MX9_strain rfl rfl (Or.inl ⟨rfl, rfl, rfl⟩) rfl (mSem_wp MX9_strain rfl aX9_strain 300 [] (fun cl ax hcl hax => ?_))
      first | refine hcl _ _ _ _ (w_X9 (fun c1 c2 => absurd (And.intro c1 c2) (by assumption)) (fun _ => ?_)) | refine hcl _ _ _ _ (w_X9 (fun _ _ => ?_) (fun c0 => absurd (And.intro (by assumption) (by assumption)) c0))
      refine ⟨fun h9 => absurd h9 (by decide), fun _ => ?_⟩
      first | refine hcl _ _ _ _ (w_X9_isYear (fun c1 c2 => absurd (And.intro c1 c2) (by assumption)) (fun _ => ?_)) | refine hcl _ _ _ _ (w_X9_isYear (fun _ _ => ?_) (fun c0 => absurd (And.intro (by assumption) (by assumption)) c0))
      refine ⟨fun _ => ?_, fun h9 => absurd h9 (by decide)⟩
      exact hcl _ _ _ _ (w_X9_finding 0 (by decide) (by decide) (hK _ _ (rEnd_cnt h (by decide))))
  · refine ⟨fun _ => ?_, fun h9 => absurd h9 (by decide)⟩
    refine hcl _ _ _ _ (w_X8_refuse 0 (by decide) (by decide) ?_)
    refine hK _ _ ?_
    clear hcl hax
    clear cl ax
    refine mCall_k (fun K hK => ?_)
    refine mCall_sem MX9_strain rfl rfl (Or.inl ⟨rfl, rfl, rfl⟩) rfl (mSem_wp MX9_strain rfl aX9_strain 300 [] (fun cl ax hcl hax => ?_))
    first | refine hcl _ _ _ _ (w_X9 (fun c1 c2 => absurd (And.intro c1 c2) (by assumption)) (fun _ => ?_)) | refine hcl _ _ _ _ (w_X9 (fun _ _ => ?_) (fun c0 => absurd (And.intro (by assumption) (by assumption)) c0))
    refine ⟨fun _ => ?_, fun h9 => absurd h9 (by decide)⟩
    exact hcl _ _ _ _ (w_X9_finding 0 (by decide) (by decide) (hK _ _ (rEnd_cnt h (by decide))))
/-- sums from year 0 on -/
def su (s : Nat → Int32) : Nat → Int32
  | 0 => 0
  | j + 1 => su s j + s j
theorem lp_X8_crack {E : ME} {d : Nat} {A : Nat → Nat → Int32} {B : Nat → Nat → Int64} {K : MK} {k : Nat} (hk : k < 8) (s : Nat → Int32) (hs : ∀ j, s j = sn (A 2 1) (A 3) k (nI j)) (h1 : ∀ j, j < 1000 → (∀ i, i < j → ¬ 100 ≤ su s (i + 1)) → 100 ≤ su s (j + 1) → K (some (.int (nI j))) (SH, A, B)) (h0 : (∀ i, i < 1000 → ¬ 100 ≤ su s (i + 1)) → K (some (.int (-1000000004))) (SH, cnt1 A 3, B)) : ∀ j, (j ≤ 1000 ∧ ∀ i, i < j → ¬ 100 ≤ su s (i + 1)) → mSem E (d + 3) nX8_crack (SH, A, B) 0 0 K 21 [some (.ref 0), some (.int (nI k)), some (.int (su s j)), some (.int (nI j))] [] (SH, A, B) := by
  refine mSem_loop MX8_crack rfl aX8_crack 300 [21] (fun j => [some (.ref 0), some (.int (nI k)), some (.int (su s j)), some (.int (nI j))]) (fun j => (SH, A, B)) (fun j => j ≤ 1000 ∧ ∀ i, i < j → ¬ 100 ≤ su s (i + 1)) (fun j => 1000 - j) ?_
  intro j hj cl ax hcl hax hlp
  refine ⟨fun c => ?_, fun c => ?_⟩
  · have hj9 : j = 1000 := by
      have := (nI_ltI (a := 999) (b := j) (by decide) (by omega)).mp c
      omega
    subst hj9
    refine hcl _ _ _ _ (w_X8_refuse 3 (by decide) (by decide) ?_)
    exact h0 hj.2
  · have hj9 : j < 1000 := by
      rcases Nat.lt_or_ge j 1000 with q | q
      · exact q
      · exact absurd ((nI_ltI (a := 999) (b := j) (by decide) (by omega)).mpr (by omega)) c
    refine hcl _ _ _ _ (w_shear k hk rfl ?_)
    rw [← hs j]
    refine ⟨fun c2 => ?_, fun c2 => ?_⟩
    · have this : ax 21 [some (.ref 0), some (.int (nI k)), some (.int (su s (j + 1))), some (.int (nI (j + 1)))] [] (SH, A, B) := hlp (j + 1) ⟨by omega, fun i hi => by
        by_cases e : i = j
        · subst e
          have c2 : su s (i + 1) < 100 := c2
          grind
        · exact hj.2 i (by omega)⟩ (by omega)
      rw [← nI_1] at this
      exact this
    · exact h1 j hj9 hj.2 (by
        have c2 : ¬ su s (j + 1) < 100 := c2
        grind)
theorem lp_X9_crack {E : ME} {d : Nat} {A : Nat → Nat → Int32} {B : Nat → Nat → Int64} {K : MK} {k : Nat} (hk : k < 8) (s : Nat → Int32) (hs : ∀ j, s j = sn (A 75 2) (fun q => A 75 (6 + q)) k (nI j)) (h1 : ∀ j, j < 1000 → (∀ i, i < j → ¬ 100 ≤ su s (i + 1)) → 100 ≤ su s (j + 1) → K (some (.int (nI j))) (SH, A, B)) (h0 : (∀ i, i < 1000 → ¬ 100 ≤ su s (i + 1)) → K (some (.int (-1000000004))) (SH, cnt2 A 3, B)) : ∀ j, (j ≤ 1000 ∧ ∀ i, i < j → ¬ 100 ≤ su s (i + 1)) → mSem E (d + 4) nX9_crack (SH, A, B) 0 0 K 21 [some (.ref 74), some (.int (nI k)), some (.int (su s j)), some (.int (nI j))] [] (SH, A, B) := by
  refine mSem_loop MX9_crack rfl aX9_crack 300 [21] (fun j => [some (.ref 74), some (.int (nI k)), some (.int (su s j)), some (.int (nI j))]) (fun j => (SH, A, B)) (fun j => j ≤ 1000 ∧ ∀ i, i < j → ¬ 100 ≤ su s (i + 1)) (fun j => 1000 - j) ?_
  intro j hj cl ax hcl hax hlp
  refine ⟨fun c => ?_, fun c => ?_⟩
  · have hj9 : j = 1000 := by
      have := (nI_ltI (a := 999) (b := j) (by decide) (by omega)).mp c
      omega
    subst hj9
    refine hcl _ _ _ _ (w_X9_finding 3 (by decide) (by decide) ?_)
    exact h0 hj.2
  · have hj9 : j < 1000 := by
      rcases Nat.lt_or_ge j 1000 with q | q
      · exact q
      · exact absurd ((nI_ltI (a := 999) (b := j) (by decide) (by omega)).mpr (by omega)) c
    refine hcl _ _ _ _ (w_strainOf k hk rfl ?_)
    rw [← hs j]
    refine ⟨fun c2 => ?_, fun c2 => ?_⟩
    · have this : ax 21 [some (.ref 74), some (.int (nI k)), some (.int (su s (j + 1))), some (.int (nI (j + 1)))] [] (SH, A, B) := hlp (j + 1) ⟨by omega, fun i hi => by
        by_cases e : i = j
        · subst e
          have c2 : su s (i + 1) < 100 := c2
          grind
        · exact hj.2 i (by omega)⟩ (by omega)
      rw [← nI_1] at this
      exact this
    · exact h1 j hj9 hj.2 (by
        have c2 : ¬ su s (j + 1) < 100 := c2
        grind)
theorem op_crack {E : ME} {l : Int32} {A : Nat → Nat → Int32} {B : Nat → Nat → Int64} (h : rAll A B) : rOp E nX8_crack nX9_crack [.int l] A B := by
  have hice := h.1.1
  refine rOp_of (fun K hK => ?_)
  refine mCall_sem MX8_crack rfl rfl (Or.inl ⟨rfl, rfl, rfl⟩) rfl (mSem_wp MX8_crack rfl aX8_crack 300 [21] (fun cl ax hcl hax => ?_))
  refine hcl _ _ _ _ (w_X8 (fun a1 a2 => ?_) (fun a0 => ?_))
  · refine ⟨fun _ => ?_, fun h9 => absurd h9 (by decide)⟩
    obtain ⟨k, hk, rfl⟩ := ix_le 7 a1 a2 rfl
    refine hax _ _ _ _ (lp_X8_crack (by omega) (fun j => sn (A 2 1) (A 3) k (nI j)) (fun j => rfl) (fun j j1 j2 j3 => ?_) (fun j2 => ?_) 0 ⟨by omega, fun i hi => by omega⟩)
    · refine hK _ _ ?_
      clear hcl hax
      clear cl ax
      refine mCall_k (fun K hK => ?_)
      refine mCall_sem MX9_crack rfl rfl (Or.inl ⟨rfl, rfl, rfl⟩) rfl (mSem_wp MX9_crack rfl aX9_crack 300 [21] (fun cl ax hcl hax => ?_))
      first | refine hcl _ _ _ _ (w_X9 (fun c1 c2 => absurd (And.intro c1 c2) (by assumption)) (fun _ => ?_)) | refine hcl _ _ _ _ (w_X9 (fun _ _ => ?_) (fun c0 => absurd (And.intro (by assumption) (by assumption)) c0))
      refine ⟨fun _ => ?_, fun h9 => absurd h9 (by decide)⟩
      refine hax _ _ _ _ (lp_X9_crack (by omega) (fun j => sn (A 2 1) (A 3) k (nI j)) (fun j => sn_eq hice (by omega) _) (fun i i1 i2 i3 => ?_) (fun i2 => absurd j3 (i2 j j1)) 0 ⟨by omega, fun i hi => by omega⟩)
      have : i = j := by
        rcases Nat.lt_trichotomy i j with q | q | q
        · exact absurd i3 (j2 i q)
        · exact q
        · exact absurd j3 (i2 j q)
      subst this
      exact hK _ _ ⟨rfl, rfl, h⟩
    · refine hK _ _ ?_
      clear hcl hax
      clear cl ax
      refine mCall_k (fun K hK => ?_)
      refine mCall_sem MX9_crack rfl rfl (Or.inl ⟨rfl, rfl, rfl⟩) rfl (mSem_wp MX9_crack rfl aX9_crack 300 [21] (fun cl ax hcl hax => ?_))
      first | refine hcl _ _ _ _ (w_X9 (fun c1 c2 => absurd (And.intro c1 c2) (by assumption)) (fun _ => ?_)) | refine hcl _ _ _ _ (w_X9 (fun _ _ => ?_) (fun c0 => absurd (And.intro (by assumption) (by assumption)) c0))
      refine ⟨fun _ => ?_, fun h9 => absurd h9 (by decide)⟩
      refine hax _ _ _ _ (lp_X9_crack (A := cnt1 A 3) (by omega) (fun j => sn (A 2 1) (A 3) k (nI j)) (fun j => sn_eq hice (by omega) _) (fun i i1 i2 i3 => absurd i3 (j2 i i1)) (fun i2 => ?_) 0 ⟨by omega, fun i hi => by omega⟩)
      exact hK _ _ (rEnd_cnt h (by decide))
  · refine ⟨fun h9 => absurd h9 (by decide), fun _ => ?_⟩
    refine hcl _ _ _ _ (w_X8_refuse 0 (by decide) (by decide) ?_)
    refine hK _ _ ?_
    clear hcl hax
    clear cl ax
    refine mCall_k (fun K hK => ?_)
    refine mCall_sem MX9_crack rfl rfl (Or.inl ⟨rfl, rfl, rfl⟩) rfl (mSem_wp MX9_crack rfl aX9_crack 300 [] (fun cl ax hcl hax => ?_))
    first | refine hcl _ _ _ _ (w_X9 (fun c1 c2 => absurd (And.intro c1 c2) (by assumption)) (fun _ => ?_)) | refine hcl _ _ _ _ (w_X9 (fun _ _ => ?_) (fun c0 => absurd (And.intro (by assumption) (by assumption)) c0))
    refine ⟨fun h9 => absurd h9 (by decide), fun _ => ?_⟩
    exact hcl _ _ _ _ (w_X9_finding 0 (by decide) (by decide) (hK _ _ (rEnd_cnt h (by decide))))
