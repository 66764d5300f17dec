/-! beside, whose -/
def NB (G L F : Nat → Int32) (i j : Nat) : Prop := G i = 0 ∧ G j = 0 ∧ ¬ 1 < ab (L i - L j) ∧ ¬ 30 < ab (F i - F j)
theorem w_areNb4 {E : ME} {d : Nat} {A : Nat → Nat → Int32} {B : Nat → Nat → Int64} {K : MK} (i j : Nat) (hi : i < 12) (hj : j < 12) (k1 : NB (A 9) (A 6) (A 7) i j → K (some (.int 1)) (SH, A, B)) (k0 : ¬ NB (A 9) (A 6) (A 7) i j → K (some (.int 0)) (SH, A, B)) : mCall E (d + 1) nX1_areNeighbours [.ref 4, .int (nI i), .int (nI j)] (SH, A, B) K := by
  have e8 : (nI j).toNatClampNeg = j := nI_clamp (by omega)
  have e9 : (nI i).toNatClampNeg = i := nI_clamp (by omega)
  have hv : vp_in (nI j) 12 := vp_in_nI hj (by decide)
  have hw : vp_in (nI i) 12 := vp_in_nI hi (by decide)
  unfold NB at k1 k0
  rw [← e8, ← e9] at k0 k1
  clear e8 e9
  refine mCall_sem MX1_areNeighbours rfl rfl (Or.inl ⟨rfl, rfl, rfl⟩) rfl (mSem_wp MX1_areNeighbours rfl aX1_areNeighbours 300 [] (fun cl ax hcl hax => ?_))
  refine ⟨hw, ?_⟩
  refine ⟨fun c => ⟨rfl, k0 (fun q => c q.1)⟩, fun c1 => ?_⟩
  refine ⟨hv, ?_⟩
  refine ⟨fun c => ⟨rfl, k0 (fun q => c q.2.1)⟩, fun c2 => ?_⟩
  refine ⟨hw, ?_⟩
  refine ⟨hv, ?_⟩
  refine ⟨fun c => ⟨rfl, k0 (fun q => q.2.2.1 c)⟩, fun c3 => ?_⟩
  refine ⟨hw, ?_⟩
  refine ⟨hv, ?_⟩
  refine ⟨fun c => ⟨rfl, k0 (fun q => q.2.2.2 c)⟩, fun c4 => ?_⟩
  exact ⟨rfl, k1 ⟨c1, c2, c3, c4⟩⟩
theorem w_areNb35 {E : ME} {d : Nat} {A : Nat → Nat → Int32} {B : Nat → Nat → Int64} {K : MK} (i j : Nat) (hi : i < 12) (hj : j < 12) (k1 : NB (A 40) (A 37) (A 38) i j → K (some (.int 1)) (SH, A, B)) (k0 : ¬ NB (A 40) (A 37) (A 38) i j → K (some (.int 0)) (SH, A, B)) : mCall E (d + 1) nX1_areNeighbours [.ref 35, .int (nI i), .int (nI j)] (SH, A, B) K := by
  have e8 : (nI j).toNatClampNeg = j := nI_clamp (by omega)
  have e9 : (nI i).toNatClampNeg = i := nI_clamp (by omega)
  have hv : vp_in (nI j) 12 := vp_in_nI hj (by decide)
  have hw : vp_in (nI i) 12 := vp_in_nI hi (by decide)
  unfold NB at k1 k0
  rw [← e8, ← e9] at k0 k1
  clear e8 e9
  refine mCall_sem MX1_areNeighbours rfl rfl (Or.inl ⟨rfl, rfl, rfl⟩) rfl (mSem_wp MX1_areNeighbours rfl aX1_areNeighbours 300 [] (fun cl ax hcl hax => ?_))
  refine ⟨hw, ?_⟩
  refine ⟨fun c => ⟨rfl, k0 (fun q => c q.1)⟩, fun c1 => ?_⟩
  refine ⟨hv, ?_⟩
  refine ⟨fun c => ⟨rfl, k0 (fun q => c q.2.1)⟩, fun c2 => ?_⟩
  refine ⟨hw, ?_⟩
  refine ⟨hv, ?_⟩
  refine ⟨fun c => ⟨rfl, k0 (fun q => q.2.2.1 c)⟩, fun c3 => ?_⟩
  refine ⟨hw, ?_⟩
  refine ⟨hv, ?_⟩
  refine ⟨fun c => ⟨rfl, k0 (fun q => q.2.2.2 c)⟩, fun c4 => ?_⟩
  exact ⟨rfl, k1 ⟨c1, c2, c3, c4⟩⟩
def MB (N : Nat → Int32) (i j : Nat) : Prop := ¬ N (19 + 5 * i) = 1 ∧ ¬ N (19 + 5 * j) = 1 ∧ ¬ 1 < ab (N (16 + 5 * i) - N (16 + 5 * j)) ∧ ¬ 30 < ab (N (17 + 5 * i) - N (17 + 5 * j))
theorem w_areBe {E : ME} {d : Nat} {A : Nat → Nat → Int32} {B : Nat → Nat → Int64} {K : MK} (i j : Nat) (hi : i < 12) (hj : j < 12) (k1 : i ≠ j → MB (A 75) i j → K (some (.int 1)) (SH, A, B)) (k0 : ¬ (i ≠ j ∧ MB (A 75) i j) → K (some (.int 0)) (SH, A, B)) : mCall E (d + 2) nX9_areBeside [.ref 74, .int (nI i), .int (nI j)] (SH, A, B) K := by
  unfold MB at k1 k0
  refine mCall_sem MX9_areBeside rfl rfl (Or.inl ⟨rfl, rfl, rfl⟩) rfl (mSem_wp MX9_areBeside rfl aX9_areBeside 300 [] (fun cl ax hcl hax => ?_))
  refine ⟨fun (c : nI i = nI j) => ⟨rfl, k0 (fun q => q.1 ((nI_eq (by omega) (by omega)).mp c))⟩, fun (c : ¬ nI i = nI j) => ?_⟩
  have c0 : i ≠ j := fun q => c (by rw [q])
  refine hcl _ _ _ _ (w_isGone i hi (fun c1 => ?_) (fun c1 => ?_))
  · refine ⟨fun _ => ?_, fun h9 => absurd h9 (by decide)⟩
    exact ⟨rfl, k0 (fun q => q.2.1 c1)⟩
  refine ⟨fun h9 => absurd h9 (by decide), fun _ => ?_⟩
  refine hcl _ _ _ _ (w_isGone j hj (fun c2 => ?_) (fun c2 => ?_))
  · refine ⟨fun _ => ?_, fun h9 => absurd h9 (by decide)⟩
    exact ⟨rfl, k0 (fun q => q.2.2.1 c2)⟩
  refine ⟨fun h9 => absurd h9 (by decide), fun _ => ?_⟩
  refine hcl _ _ _ _ (w_houseIs (16 + 5 * i) (by omega) (hIx i 1 _ (by omega)) ?_)
  refine hcl _ _ _ _ (w_houseIs (16 + 5 * j) (by omega) (hIx j 1 _ (by omega)) ?_)
  refine ⟨fun c => ⟨rfl, k0 (fun q => q.2.2.2.1 c)⟩, fun c3 => ?_⟩
  refine hcl _ _ _ _ (w_houseIs (17 + 5 * i) (by omega) (hIx i 2 _ (by omega)) ?_)
  refine hcl _ _ _ _ (w_houseIs (17 + 5 * j) (by omega) (hIx j 2 _ (by omega)) ?_)
  refine ⟨fun c => ⟨rfl, k0 (fun q => q.2.2.2.2 c)⟩, fun c4 => ?_⟩
  exact ⟨rfl, k1 c0 ⟨c1, c2, c3, c4⟩⟩
theorem NB_MB {A : Nat → Nat → Int32} {k : Nat} (kh : ∀ j, j < k → (A 5 j = A 75 (15 + 5 * j) ∧ A 6 j = A 75 (16 + 5 * j) ∧ A 7 j = A 75 (17 + 5 * j) ∧ A 8 j = A 75 (18 + 5 * j) ∧ A 9 j = A 75 (19 + 5 * j)) ∧ (0 ≤ A 75 (15 + 5 * j) ∧ A 75 (15 + 5 * j) ≤ 5) ∧ (0 ≤ A 75 (16 + 5 * j) ∧ A 75 (16 + 5 * j) ≤ 8) ∧ (0 ≤ A 75 (17 + 5 * j) ∧ A 75 (17 + 5 * j) ≤ 9999) ∧ (0 ≤ A 75 (18 + 5 * j) ∧ A 75 (18 + 5 * j) ≤ 99) ∧ ((A 75 (19 + 5 * j) = 0 ∧ A 75 (17 + 5 * j) < A 75 0) ∨ A 75 (19 + 5 * j) = 1)) {i j : Nat} (hi : i < k) (hj : j < k) : NB (A 9) (A 6) (A 7) i j ↔ MB (A 75) i j := by
  have a := kh i hi
  have b := kh j hj
  unfold NB MB
  rw [a.1.2.1, a.1.2.2.1, a.1.2.2.2.2, b.1.2.1, b.1.2.2.1, b.1.2.2.2.2]
  have ga := a.2.2.2.2.2
  have gb := b.2.2.2.2.2
  clear a b kh
  refine ⟨fun ⟨q1, q2, q3⟩ => ⟨by rw [q1]; decide, by rw [q2]; decide, q3⟩, fun ⟨q1, q2, q3⟩ => ⟨?_, ?_, q3⟩⟩
  · rcases ga with g | g
    · exact g.1
    · exact absurd g q1
  · rcases gb with g | g
    · exact g.1
    · exact absurd g q2
noncomputable def bm (P : Nat → Prop) : Nat → Int32
  | 0 => 0
  | j + 1 => @ite Int32 (P j) (Classical.propDecidable (P j)) (bm P j ||| ((1 : Int32) <<< (nI j &&& 31))) (bm P j)
theorem bm_c {P Q : Nat → Prop} : ∀ (k : Nat), (∀ j, j < k → (P j ↔ Q j)) → bm P k = bm Q k
  | 0, _ => rfl
  | k + 1, h => by
    have h1 := bm_c k (fun j hj => h j (by omega))
    have h2 := h k (by omega)
    unfold bm
    rw [h1]
    by_cases c : P k
    · rw [if_pos c, if_pos (h2.mp c)]
    · rw [if_neg c, if_neg (fun q => c (h2.mpr q))]
theorem lp_nbs {E : ME} {d : Nat} {A : Nat → Nat → Int32} {B : Nat → Nat → Int64} {K : MK} {k i : Nat} (hk : k ≤ 12) (hi : i < 12) (hx : A 4 0 = nI k) (hK : K (some (.int (bm (fun j => i ≠ j ∧ NB (A 9) (A 6) (A 7) i j) k))) (SH, A, B)) : ∀ j, j ≤ k → mSem E (d + 2) nX1_neighboursOf (SH, A, B) 0 0 K 4 [some (.ref 4), some (.int (nI i)), some (.int (bm (fun j => i ≠ j ∧ NB (A 9) (A 6) (A 7) i j) j)), some (.int (nI j))] [] (SH, A, B) := by
  refine mSem_loop MX1_neighboursOf rfl aX1_neighboursOf 300 [4] (fun j => [some (.ref 4), some (.int (nI i)), some (.int (bm (fun j => i ≠ j ∧ NB (A 9) (A 6) (A 7) i j) j)), some (.int (nI j))]) (fun j => (SH, A, B)) (fun j => j ≤ k) (fun j => k - j) ?_
  intro j hj cl ax hcl hax hlp
  refine ⟨fun c => ?_, fun c => ?_⟩
  · have c : A 4 0 ≤ nI j := c
    rw [hx, nI_leI (by omega) (by omega)] at c
    have : j = k := by omega
    subst this
    exact hK
  · have c : ¬ A 4 0 ≤ nI j := c
    rw [hx, nI_leI (by omega) (by omega)] at c
    have this : ax 4 [some (.ref 4), some (.int (nI i)), some (.int (bm (fun j => i ≠ j ∧ NB (A 9) (A 6) (A 7) i j) (j + 1))), some (.int (nI (j + 1)))] [] (SH, A, B) := hlp (j + 1) (by omega) (by omega)
    rw [← nI_1, bm] at this
    refine ⟨fun (c2 : nI j = nI i) => ?_, fun (c2 : ¬ nI j = nI i) => ?_⟩
    · rw [if_neg (fun q => q.1 ((nI_eq (by omega) (by omega)).mp c2).symm)] at this
      exact this
    · refine hcl _ _ _ _ (w_areNb4 i j hi (by omega) (fun c3 => ?_) (fun c3 => ?_))
      · refine ⟨fun h9 => absurd h9 (by decide), fun _ => ?_⟩
        rw [if_pos ⟨fun q => c2 (by rw [q]), c3⟩] at this
        exact this
      · refine ⟨fun _ => ?_, fun h9 => absurd h9 (by decide)⟩
        rw [if_neg (fun q => c3 q.2)] at this
        exact this
theorem w_nbs {E : ME} {d : Nat} {A : Nat → Nat → Int32} {B : Nat → Nat → Int64} {K : MK} {k i : Nat} (hk : k ≤ 12) (hi : i < 12) (hx : A 4 0 = nI k) (hK : K (some (.int (bm (fun j => i ≠ j ∧ NB (A 9) (A 6) (A 7) i j) k))) (SH, A, B)) : mCall E (d + 2) nX1_neighboursOf [.ref 4, .int (nI i)] (SH, A, B) K := by
  refine mCall_sem MX1_neighboursOf rfl rfl (Or.inl ⟨rfl, rfl, rfl⟩) rfl (mSem_wp MX1_neighboursOf rfl aX1_neighboursOf 300 [4] (fun cl ax hcl hax => ?_))
  exact hax _ _ _ _ (lp_nbs hk hi hx hK 0 (by omega))
theorem lp_X9_beside {E : ME} {d : Nat} {A : Nat → Nat → Int32} {B : Nat → Nat → Int64} {K : MK} {k i : Nat} (hk : k ≤ 12) (hi : i < 12) (hx : A 75 3 = nI k) (hK : K (some (.int (bm (fun j => i ≠ j ∧ MB (A 75) i j) k))) (SH, A, B)) : ∀ j, j ≤ k → mSem E (d + 3) nX9_beside (SH, A, B) 0 0 K 34 [some (.ref 74), some (.int (nI i)), some (.int (bm (fun j => i ≠ j ∧ MB (A 75) i j) j)), some (.int (nI j))] [] (SH, A, B) := by
  refine mSem_loop MX9_beside rfl aX9_beside 300 [34] (fun j => [some (.ref 74), some (.int (nI i)), some (.int (bm (fun j => i ≠ j ∧ MB (A 75) i j) j)), some (.int (nI j))]) (fun j => (SH, A, B)) (fun j => j ≤ k) (fun j => k - j) ?_
  intro j hj cl ax hcl hax hlp
  refine ⟨vl 3 rfl rfl, ?_⟩
  refine ⟨fun c => ?_, fun c => ?_⟩
  · have c : A 75 3 ≤ nI j := c
    rw [hx, nI_leI (by omega) (by omega)] at c
    have : j = k := by omega
    subst this
    exact hK
  · have c : ¬ A 75 3 ≤ nI j := c
    rw [hx, nI_leI (by omega) (by omega)] at c
    have this : ax 34 [some (.ref 74), some (.int (nI i)), some (.int (bm (fun j => i ≠ j ∧ MB (A 75) i j) (j + 1))), some (.int (nI (j + 1)))] [] (SH, A, B) := hlp (j + 1) (by omega) (by omega)
    rw [← nI_1, bm] at this
    refine hcl _ _ _ _ (w_areBe i j hi (by omega) (fun c2 c3 => ?_) (fun c3 => ?_))
    · refine ⟨fun h9 => absurd h9 (by decide), fun _ => ?_⟩
      rw [if_pos ⟨c2, c3⟩] at this
      exact this
    · refine ⟨fun _ => ?_, fun h9 => absurd h9 (by decide)⟩
      rw [if_neg c3, ← Int32.or_zero (a := bm _ _)] at this
      exact this
theorem op_beside {E : ME} {v : Int32} {A : Nat → Nat → Int32} {B : Nat → Nat → Int64} (h : rAll A B) : rOp E nX8_beside nX9_beside [.int v] A B := by
  obtain ⟨k, k12, kx, km, kh⟩ := rHou_at h.1.2.1
  refine rOp_of (fun K hK => ?_)
  refine mCall_sem MX8_beside rfl rfl (Or.inl ⟨rfl, rfl, rfl⟩) rfl (mSem_wp MX8_beside rfl aX8_beside 300 [] (fun cl ax hcl hax => ?_))
  refine hcl _ _ _ _ (w_X8_isHouse kx (fun a1 a2 => ?_) (fun a0 => ?_))
  · refine ⟨fun _ => ?_, fun h9 => absurd h9 (by decide)⟩
    obtain ⟨j, hj, rfl⟩ := ho_ix k12 a1 a2
    have kj := kh j hj
    have e8 : (nI j).toNatClampNeg = j := nI_clamp (by omega)
    have hv : vp_in (nI j) 12 := vp_in_nI (by omega) (by decide)
    refine ⟨hv, ?_⟩
    refine ⟨fun (c : A 9 (nI j).toNatClampNeg = 0) => ?_, fun (c : ¬ A 9 (nI j).toNatClampNeg = 0) => ?_⟩
    · rw [e8] at c
      refine hcl _ _ _ _ (w_nbs k12 (by omega) kx ?_)
      refine hK _ _ ?_
      clear hcl hax
      clear cl ax
      refine mCall_k (fun K hK => ?_)
      refine mCall_sem MX9_beside rfl rfl (Or.inl ⟨rfl, rfl, rfl⟩) rfl (mSem_wp MX9_beside rfl aX9_beside 300 [34] (fun cl ax hcl hax => ?_))
      refine hcl _ _ _ _ (w_X9_isHouse (n := nI k) km (fun _ _ => ?_) (fun c0 => absurd (And.intro a1 a2) c0))
      refine ⟨fun _ => ?_, fun h9 => absurd h9 (by decide)⟩
      refine hcl _ _ _ _ (w_isGone j (by omega) (fun (c2 : A 75 _ = 1) => by exfalso; clear hcl hax hK; grind) (fun _ => ?_))
      refine ⟨fun _ => ?_, fun h9 => absurd h9 (by decide)⟩
      refine hax _ _ _ _ (lp_X9_beside k12 (by omega) km ?_ 0 (by omega))
      refine hK _ _ ⟨?_, rfl, h⟩
      rw [bm_c k (fun i hi => and_congr Iff.rfl (NB_MB kh hj hi))]
    · rw [e8] at c
      refine hcl _ _ _ _ (w_X8_refuse 4 (by decide) (by decide) ?_)
      refine hK _ _ ?_
      clear hcl hax
      clear cl ax
      refine mCall_k (fun K hK => ?_)
      refine mCall_sem MX9_beside rfl rfl (Or.inl ⟨rfl, rfl, rfl⟩) rfl (mSem_wp MX9_beside rfl aX9_beside 300 [] (fun cl ax hcl hax => ?_))
      refine hcl _ _ _ _ (w_X9_isHouse (n := nI k) km (fun _ _ => ?_) (fun c0 => absurd (And.intro a1 a2) c0))
      refine ⟨fun _ => ?_, fun h9 => absurd h9 (by decide)⟩
      refine hcl _ _ _ _ (w_isGone j (by omega) (fun _ => ?_) (fun (c2 : ¬ A 75 _ = 1) => by exfalso; clear hcl hax hK; grind))
      refine ⟨fun h9 => absurd h9 (by decide), fun _ => ?_⟩
      exact hcl _ _ _ _ (w_X9_finding 4 (by decide) (by decide) (hK _ _ (rEnd_cnt h (by decide))))
  · refine ⟨fun h9 => absurd h9 (by decide), fun _ => ?_⟩
    refine hcl _ _ _ _ (w_X8_refuse 0 (by decide) (by decide) ?_)
    refine hK _ _ ?_
    clear hcl hax
    clear cl ax
    refine mCall_k (fun K hK => ?_)
    refine mCall_sem MX9_beside rfl rfl (Or.inl ⟨rfl, rfl, rfl⟩) rfl (mSem_wp MX9_beside rfl aX9_beside 300 [] (fun cl ax hcl hax => ?_))
    refine hcl _ _ _ _ (w_X9_isHouse (n := nI k) km (fun c1 c2 => absurd (And.intro c1 c2) a0) (fun _ => ?_))
    refine ⟨fun h9 => absurd h9 (by decide), fun _ => ?_⟩
    exact hcl _ _ _ _ (w_X9_finding 0 (by decide) (by decide) (hK _ _ (rEnd_cnt h (by decide))))
