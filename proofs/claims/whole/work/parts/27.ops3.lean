/-! of, now, as, house, edge -/
theorem op_of {E : ME} {v u : Int32} {A : Nat → Nat → Int32} {B : Nat → Nat → Int64} (h : rAll A B) : rOp E nX8_of nX9_of [.int v, .int u] A B := by
  obtain ⟨k, k12, kx, km, kh⟩ := rHou_at h.1.2.1
  have hice := h.1.1
  refine rOp_of (fun K hK => ?_)
  refine mCall_sem MX8_of rfl rfl (Or.inl ⟨rfl, rfl, rfl⟩) rfl (mSem_wp MX8_of rfl aX8_of 300 [] (fun cl ax hcl hax => ?_))
  refine hcl _ _ _ _ (w_X8_isHouse kx (fun a1 a2 => ?_) (fun a0 => ?_))
  · refine ⟨fun _ => ?_, fun h9 => absurd h9 (by decide)⟩
    obtain ⟨j, hj, rfl⟩ := ho_ix k12 a1 a2
    have kj := kh j hj
    have e8 : (nI j).toNatClampNeg = j := nI_clamp (by omega)
    have hv : vp_in (nI j) 12 := vp_in_nI (by omega) (by decide)
    refine ⟨fun (c : u = 0) => ?_, fun (c0 : ¬ u = 0) => ⟨fun (c : u = 1) => ?_, fun (c1 : ¬ u = 1) => ⟨fun (c : u = 2) => ?_, fun (c2 : ¬ u = 2) => ⟨fun (c : u = 3) => ?_, fun (c3 : ¬ u = 3) => ⟨fun (c : u = 4) => ?_, fun (c4 : ¬ u = 4) => ⟨fun (c : u = 5) => ?_, fun (c5 : ¬ u = 5) => ?_⟩⟩⟩⟩⟩⟩
    · subst c
      refine ⟨hv, ?_⟩
      refine hK _ _ ?_
      clear hcl hax
      clear cl ax
      refine mCall_k (fun K hK => ?_)
      refine mCall_sem MX9_of rfl rfl (Or.inl ⟨rfl, rfl, rfl⟩) rfl (mSem_wp MX9_of rfl aX9_of 300 [] (fun cl ax hcl hax => ?_))
      first | refine hcl _ _ _ _ (w_X9_isHouse (n := nI k) km (fun c1 c2 => absurd (And.intro c1 c2) (by assumption)) (fun _ => ?_)) | refine hcl _ _ _ _ (w_X9_isHouse (n := nI k) km (fun _ _ => ?_) (fun c0 => absurd (And.intro (by assumption) (by assumption)) c0))
      refine ⟨fun h9 => absurd h9 (by decide), fun _ => ?_⟩
      refine hcl _ _ _ _ (w_X9 (fun _ _ => ?_) (fun c0 => absurd (by decide) c0))
      refine ⟨fun _ => ?_, fun h9 => absurd h9 (by decide)⟩
      refine ⟨fun h9 => absurd h9 (by decide), fun _ => ?_⟩
      refine hcl _ _ _ _ (w_houseIs (15 + 5 * j) (by omega) (hIx j 0 _ (by omega)) ?_)
      refine hK _ _ ⟨?_, rfl, h⟩
      show some (Value.int (A 5 (nI j).toNatClampNeg)) = some (Value.int (A 75 (15 + 5 * j)))
      rw [e8]
      grind
    · subst c
      refine ⟨hv, ?_⟩
      refine hK _ _ ?_
      clear hcl hax
      clear cl ax
      refine mCall_k (fun K hK => ?_)
      refine mCall_sem MX9_of rfl rfl (Or.inl ⟨rfl, rfl, rfl⟩) rfl (mSem_wp MX9_of rfl aX9_of 300 [] (fun cl ax hcl hax => ?_))
      first | refine hcl _ _ _ _ (w_X9_isHouse (n := nI k) km (fun c1 c2 => absurd (And.intro c1 c2) (by assumption)) (fun _ => ?_)) | refine hcl _ _ _ _ (w_X9_isHouse (n := nI k) km (fun _ _ => ?_) (fun c0 => absurd (And.intro (by assumption) (by assumption)) c0))
      refine ⟨fun h9 => absurd h9 (by decide), fun _ => ?_⟩
      refine hcl _ _ _ _ (w_X9 (fun _ _ => ?_) (fun c0 => absurd (by decide) c0))
      refine ⟨fun _ => ?_, fun h9 => absurd h9 (by decide)⟩
      refine ⟨fun h9 => absurd h9 (by decide), fun _ => ?_⟩
      refine hcl _ _ _ _ (w_houseIs (16 + 5 * j) (by omega) (hIx j 1 _ (by omega)) ?_)
      refine hK _ _ ⟨?_, rfl, h⟩
      show some (Value.int (A 6 (nI j).toNatClampNeg)) = some (Value.int (A 75 (16 + 5 * j)))
      rw [e8]
      grind
    · subst c
      refine ⟨hv, ?_⟩
      refine hK _ _ ?_
      clear hcl hax
      clear cl ax
      refine mCall_k (fun K hK => ?_)
      refine mCall_sem MX9_of rfl rfl (Or.inl ⟨rfl, rfl, rfl⟩) rfl (mSem_wp MX9_of rfl aX9_of 300 [] (fun cl ax hcl hax => ?_))
      first | refine hcl _ _ _ _ (w_X9_isHouse (n := nI k) km (fun c1 c2 => absurd (And.intro c1 c2) (by assumption)) (fun _ => ?_)) | refine hcl _ _ _ _ (w_X9_isHouse (n := nI k) km (fun _ _ => ?_) (fun c0 => absurd (And.intro (by assumption) (by assumption)) c0))
      refine ⟨fun h9 => absurd h9 (by decide), fun _ => ?_⟩
      refine hcl _ _ _ _ (w_X9 (fun _ _ => ?_) (fun c0 => absurd (by decide) c0))
      refine ⟨fun _ => ?_, fun h9 => absurd h9 (by decide)⟩
      refine ⟨fun h9 => absurd h9 (by decide), fun _ => ?_⟩
      refine hcl _ _ _ _ (w_houseIs (17 + 5 * j) (by omega) (hIx j 2 _ (by omega)) ?_)
      refine hK _ _ ⟨?_, rfl, h⟩
      show some (Value.int (A 7 (nI j).toNatClampNeg)) = some (Value.int (A 75 (17 + 5 * j)))
      rw [e8]
      grind
    · subst c
      refine ⟨hv, ?_⟩
      refine hK _ _ ?_
      clear hcl hax
      clear cl ax
      refine mCall_k (fun K hK => ?_)
      refine mCall_sem MX9_of rfl rfl (Or.inl ⟨rfl, rfl, rfl⟩) rfl (mSem_wp MX9_of rfl aX9_of 300 [] (fun cl ax hcl hax => ?_))
      first | refine hcl _ _ _ _ (w_X9_isHouse (n := nI k) km (fun c1 c2 => absurd (And.intro c1 c2) (by assumption)) (fun _ => ?_)) | refine hcl _ _ _ _ (w_X9_isHouse (n := nI k) km (fun _ _ => ?_) (fun c0 => absurd (And.intro (by assumption) (by assumption)) c0))
      refine ⟨fun h9 => absurd h9 (by decide), fun _ => ?_⟩
      refine hcl _ _ _ _ (w_X9 (fun _ _ => ?_) (fun c0 => absurd (by decide) c0))
      refine ⟨fun _ => ?_, fun h9 => absurd h9 (by decide)⟩
      refine ⟨fun h9 => absurd h9 (by decide), fun _ => ?_⟩
      refine hcl _ _ _ _ (w_houseIs (18 + 5 * j) (by omega) (hIx j 3 _ (by omega)) ?_)
      refine hK _ _ ⟨?_, rfl, h⟩
      show some (Value.int (A 8 (nI j).toNatClampNeg)) = some (Value.int (A 75 (18 + 5 * j)))
      rw [e8]
      grind
    · subst c
      refine ⟨hv, ?_⟩
      refine ⟨fun c => ?_, fun c => ?_⟩
      · have c : A 9 j = 0 := by rw [← e8]; exact c
        refine hK _ _ ?_
        clear hcl hax
        clear cl ax
        refine mCall_k (fun K hK => ?_)
        refine mCall_sem MX9_of rfl rfl (Or.inl ⟨rfl, rfl, rfl⟩) rfl (mSem_wp MX9_of rfl aX9_of 300 [] (fun cl ax hcl hax => ?_))
        first | refine hcl _ _ _ _ (w_X9_isHouse (n := nI k) km (fun c1 c2 => absurd (And.intro c1 c2) (by assumption)) (fun _ => ?_)) | refine hcl _ _ _ _ (w_X9_isHouse (n := nI k) km (fun _ _ => ?_) (fun c0 => absurd (And.intro (by assumption) (by assumption)) c0))
        refine ⟨fun h9 => absurd h9 (by decide), fun _ => ?_⟩
        refine hcl _ _ _ _ (w_X9 (fun _ _ => ?_) (fun c0 => absurd (by decide) c0))
        refine ⟨fun _ => ?_, fun h9 => absurd h9 (by decide)⟩
        refine ⟨fun h9 => absurd h9 (by decide), fun _ => ?_⟩
        refine hcl _ _ _ _ (w_houseIs (19 + 5 * j) (by omega) (hIx j 4 _ (by omega)) ?_)
        refine hK _ _ ⟨?_, rfl, h⟩
        show some (Value.int 0) = some (Value.int (A 75 (19 + 5 * j)))
        grind
      · have c : ¬ A 9 j = 0 := by rw [← e8]; exact c
        refine hK _ _ ?_
        clear hcl hax
        clear cl ax
        refine mCall_k (fun K hK => ?_)
        refine mCall_sem MX9_of rfl rfl (Or.inl ⟨rfl, rfl, rfl⟩) rfl (mSem_wp MX9_of rfl aX9_of 300 [] (fun cl ax hcl hax => ?_))
        first | refine hcl _ _ _ _ (w_X9_isHouse (n := nI k) km (fun c1 c2 => absurd (And.intro c1 c2) (by assumption)) (fun _ => ?_)) | refine hcl _ _ _ _ (w_X9_isHouse (n := nI k) km (fun _ _ => ?_) (fun c0 => absurd (And.intro (by assumption) (by assumption)) c0))
        refine ⟨fun h9 => absurd h9 (by decide), fun _ => ?_⟩
        refine hcl _ _ _ _ (w_X9 (fun _ _ => ?_) (fun c0 => absurd (by decide) c0))
        refine ⟨fun _ => ?_, fun h9 => absurd h9 (by decide)⟩
        refine ⟨fun h9 => absurd h9 (by decide), fun _ => ?_⟩
        refine hcl _ _ _ _ (w_houseIs (19 + 5 * j) (by omega) (hIx j 4 _ (by omega)) ?_)
        refine hK _ _ ⟨?_, rfl, h⟩
        show some (Value.int 1) = some (Value.int (A 75 (19 + 5 * j)))
        grind
    · subst c
      refine hcl _ _ _ _ (w_strideOf4 j (by omega) (by grind) (by grind) (fun c => ?_) (fun c => ?_))
      · refine hK _ _ ?_
        clear hcl hax
        clear cl ax
        refine mCall_k (fun K hK => ?_)
        refine mCall_sem MX9_of rfl rfl (Or.inl ⟨rfl, rfl, rfl⟩) rfl (mSem_wp MX9_of rfl aX9_of 300 [] (fun cl ax hcl hax => ?_))
        first | refine hcl _ _ _ _ (w_X9_isHouse (n := nI k) km (fun c1 c2 => absurd (And.intro c1 c2) (by assumption)) (fun _ => ?_)) | refine hcl _ _ _ _ (w_X9_isHouse (n := nI k) km (fun _ _ => ?_) (fun c0 => absurd (And.intro (by assumption) (by assumption)) c0))
        refine ⟨fun h9 => absurd h9 (by decide), fun _ => ?_⟩
        refine hcl _ _ _ _ (w_X9 (fun _ _ => ?_) (fun c0 => absurd (by decide) c0))
        refine ⟨fun _ => ?_, fun h9 => absurd h9 (by decide)⟩
        refine ⟨fun _ => ?_, fun h9 => absurd h9 (by decide)⟩
        refine hcl _ _ _ _ (w_isGone j (by omega) (fun c2 => ?_) (fun c2 => ?_))
        · exfalso
          grind
        · refine ⟨fun _ => ?_, fun h9 => absurd h9 (by decide)⟩
          refine hcl _ _ _ _ (w_stepNow j (by omega) kj.2.2.1.1 kj.2.2.1.2 ?_)
          refine hK _ _ ⟨?_, rfl, h⟩
          unfold sm
          dsimp only
          rw [hice.1.2.2, kj.1.1, kj.1.2.1, kj.1.2.2.2.1]
          rw [SD_c hice.1.2.1 hice.2.1 kj.2.2.1.1 kj.2.2.1.2]
      · refine hK _ _ ?_
        clear hcl hax
        clear cl ax
        refine mCall_k (fun K hK => ?_)
        refine mCall_sem MX9_of rfl rfl (Or.inl ⟨rfl, rfl, rfl⟩) rfl (mSem_wp MX9_of rfl aX9_of 300 [] (fun cl ax hcl hax => ?_))
        first | refine hcl _ _ _ _ (w_X9_isHouse (n := nI k) km (fun c1 c2 => absurd (And.intro c1 c2) (by assumption)) (fun _ => ?_)) | refine hcl _ _ _ _ (w_X9_isHouse (n := nI k) km (fun _ _ => ?_) (fun c0 => absurd (And.intro (by assumption) (by assumption)) c0))
        refine ⟨fun h9 => absurd h9 (by decide), fun _ => ?_⟩
        refine hcl _ _ _ _ (w_X9 (fun _ _ => ?_) (fun c0 => absurd (by decide) c0))
        refine ⟨fun _ => ?_, fun h9 => absurd h9 (by decide)⟩
        refine ⟨fun _ => ?_, fun h9 => absurd h9 (by decide)⟩
        refine hcl _ _ _ _ (w_isGone j (by omega) (fun c2 => ?_) (fun c2 => ?_))
        · refine ⟨fun h9 => absurd h9 (by decide), fun _ => ?_⟩
          exact hK _ _ ⟨rfl, rfl, h⟩
        · exfalso
          grind
    · refine hcl _ _ _ _ (w_X8_refuse 0 (by decide) (by decide) ?_)
      refine hK _ _ ?_
      clear hcl hax
      clear cl ax
      refine mCall_k (fun K hK => ?_)
      refine mCall_sem MX9_of rfl rfl (Or.inl ⟨rfl, rfl, rfl⟩) rfl (mSem_wp MX9_of rfl aX9_of 300 [] (fun cl ax hcl hax => ?_))
      first | refine hcl _ _ _ _ (w_X9_isHouse (n := nI k) km (fun c1 c2 => absurd (And.intro c1 c2) (by assumption)) (fun _ => ?_)) | refine hcl _ _ _ _ (w_X9_isHouse (n := nI k) km (fun _ _ => ?_) (fun c0 => absurd (And.intro (by assumption) (by assumption)) c0))
      refine ⟨fun h9 => absurd h9 (by decide), fun _ => ?_⟩
      refine hcl _ _ _ _ (w_X9 (fun d1 d2 => ?_) (fun _ => ?_))
      · exfalso
        grind
      · refine ⟨fun h9 => absurd h9 (by decide), fun _ => ?_⟩
        exact hcl _ _ _ _ (w_X9_finding 0 (by decide) (by decide) (hK _ _ (rEnd_cnt h (by decide))))
  · refine ⟨fun h9 => absurd h9 (by decide), fun _ => ?_⟩
    refine hcl _ _ _ _ (w_X8_refuse 0 (by decide) (by decide) ?_)
    refine hK _ _ ?_
    clear hcl hax
    clear cl ax
    refine mCall_k (fun K hK => ?_)
    refine mCall_sem MX9_of rfl rfl (Or.inl ⟨rfl, rfl, rfl⟩) rfl (mSem_wp MX9_of rfl aX9_of 300 [] (fun cl ax hcl hax => ?_))
    first | refine hcl _ _ _ _ (w_X9_isHouse (n := nI k) km (fun c1 c2 => absurd (And.intro c1 c2) (by assumption)) (fun _ => ?_)) | refine hcl _ _ _ _ (w_X9_isHouse (n := nI k) km (fun _ _ => ?_) (fun c0 => absurd (And.intro (by assumption) (by assumption)) c0))
    refine ⟨fun _ => ?_, fun h9 => absurd h9 (by decide)⟩
    exact hcl _ _ _ _ (w_X9_finding 0 (by decide) (by decide) (hK _ _ (rEnd_cnt h (by decide))))
/-- how many of the first j stand -/
def cn (G : Nat → Int32) : Nat → Int32
  | 0 => 0
  | j + 1 => if G j = 0 then cn G j + 1 else cn G j
theorem cn_c {G G' : Nat → Int32} : ∀ (k : Nat), (∀ j, j < k → (G j = 0 ↔ G' j = 0)) → cn G k = cn G' k
  | 0, _ => rfl
  | k + 1, h => by
    have h1 := cn_c k (fun j hj => h j (by omega))
    have h2 := h k (by omega)
    unfold cn
    rw [h1]
    by_cases c : G k = 0
    · rw [if_pos c, if_pos (h2.mp c)]
    · rw [if_neg c, if_neg (fun q => c (h2.mpr q))]
theorem lp_stand {E : ME} {d : Nat} {A : Nat → Nat → Int32} {B : Nat → Nat → Int64} {K : MK} {k : Nat} (hk : k ≤ 12) (hx : A 4 0 = nI k) (hK : K (some (.int (cn (A 9) k))) (SH, A, B)) : ∀ j, j ≤ k → mSem E d nX1_howManyStand (SH, A, B) 0 0 K 4 [some (.ref 4), some (.int (cn (A 9) j)), some (.int (nI j))] [] (SH, A, B) := by
  refine mSem_loop MX1_howManyStand rfl aX1_howManyStand 300 [4] (fun j => [some (.ref 4), some (.int (cn (A 9) j)), some (.int (nI j))]) (fun j => (SH, A, B)) (fun j => j ≤ k) (fun j => k - j) ?_
  intro j hj cl ax hcl hax hlp
  have e8 : (nI j).toNatClampNeg = j := nI_clamp (by omega)
  refine ⟨fun c => ?_, fun c => ?_⟩
  · have c : A 4 0 ≤ nI j := c
    rw [hx, nI_leI (by omega) (by omega)] at c
    have : j = k := by omega
    subst this
    exact hK
  · have c : ¬ A 4 0 ≤ nI j := c
    rw [hx, nI_leI (by omega) (by omega)] at c
    refine ⟨vp_in_nI (N := 12) (by omega) (by decide), ?_⟩
    have this : ax 4 [some (.ref 4), some (.int (cn (A 9) (j + 1))), some (.int (nI (j + 1)))] [] (SH, A, B) := hlp (j + 1) (by omega) (by omega)
    rw [← nI_1] at this
    unfold cn at this
    rw [← e8] at this
    refine ⟨fun c2 => ?_, fun c2 => ?_⟩
    · rw [if_neg (by exact c2), e8] at this
      exact this
    · rw [if_pos (by exact c2), e8] at this
      exact this
theorem w_stand {E : ME} {d : Nat} {A : Nat → Nat → Int32} {B : Nat → Nat → Int64} {K : MK} {k : Nat} (hk : k ≤ 12) (hx : A 4 0 = nI k) (hK : K (some (.int (cn (A 9) k))) (SH, A, B)) : mCall E d nX1_howManyStand [.ref 4] (SH, A, B) K := by
  refine mCall_sem MX1_howManyStand rfl rfl (Or.inl ⟨rfl, rfl, rfl⟩) rfl (mSem_wp MX1_howManyStand rfl aX1_howManyStand 300 [4] (fun cl ax hcl hax => ?_))
  exact hax _ _ _ _ (lp_stand hk hx hK 0 (by omega))
theorem lp_X9_now {E : ME} {d : Nat} {A : Nat → Nat → Int32} {B : Nat → Nat → Int64} {K : MK} {k : Nat} (hk : k ≤ 12) (hx : A 75 3 = nI k) (G : Nat → Int32) (hG : ∀ j, j < k → (G j = 0 ↔ ¬ A 75 (19 + 5 * j) = 1)) (hK : K (some (.int (cn G k))) (SH, A, B)) : ∀ j, j ≤ k → mSem E (d + 2) nX9_now (SH, A, B) 0 0 K 55 [some (.ref 74), some (.int 3), some (.int (cn G j)), some (.int (nI j))] [] (SH, A, B) := by
  refine mSem_loop MX9_now rfl aX9_now 300 [55] (fun j => [some (.ref 74), some (.int 3), some (.int (cn G j)), some (.int (nI j))]) (fun j => (SH, A, B)) (fun j => j ≤ k) (fun j => k - j) ?_
  intro j hj cl ax hcl hax hlp
  refine ⟨vl 3 rfl rfl, ?_⟩
  refine ⟨fun c => ?_, fun c => ?_⟩
  · have c : A 75 3 ≤ nI j := c
    rw [hx, nI_leI (by omega) (by omega)] at c
    have : j = k := by omega
    subst this
    exact hK
  · have c : ¬ A 75 3 ≤ nI j := c
    rw [hx, nI_leI (by omega) (by omega)] at c
    have this : ax 55 [some (.ref 74), some (.int 3), some (.int (cn G (j + 1))), some (.int (nI (j + 1)))] [] (SH, A, B) := hlp (j + 1) (by omega) (by omega)
    rw [← nI_1] at this
    unfold cn at this
    refine hcl _ _ _ _ (w_isGone j (by omega) (fun c2 => ?_) (fun c2 => ?_))
    · refine ⟨fun h9 => absurd h9 (by decide), fun _ => ?_⟩
      rw [if_neg (fun q => (hG j (by omega)).mp q c2), show cn G j = cn G j + 0 by grind] at this
      exact this
    · refine ⟨fun _ => ?_, fun h9 => absurd h9 (by decide)⟩
      rw [if_pos ((hG j (by omega)).mpr c2)] at this
      exact this
theorem op_now {E : ME} {u : Int32} {A : Nat → Nat → Int32} {B : Nat → Nat → Int64} (h : rAll A B) : rOp E nX8_now nX9_now [.int u] A B := by
  obtain ⟨k, k12, kx, km, kh⟩ := rHou_at h.1.2.1
  have hice := h.1.1
  refine rOp_of (fun K hK => ?_)
  refine mCall_sem MX8_now rfl rfl (Or.inl ⟨rfl, rfl, rfl⟩) rfl (mSem_wp MX8_now rfl aX8_now 300 [] (fun cl ax hcl hax => ?_))
  refine ⟨fun (c : u = 0) => ?_, fun (c0 : ¬ u = 0) => ⟨fun (c : u = 1) => ?_, fun (c1 : ¬ u = 1) => ⟨fun (c : u = 2) => ?_, fun (c2 : ¬ u = 2) => ⟨fun (c : u = 3) => ?_, fun (c3 : ¬ u = 3) => ?_⟩⟩⟩⟩
  · subst c
    refine hK _ _ ?_
    clear hcl hax
    clear cl ax
    refine mCall_k (fun K hK => ?_)
    refine mCall_sem MX9_now rfl rfl (Or.inl ⟨rfl, rfl, rfl⟩) rfl (mSem_wp MX9_now rfl aX9_now 300 [] (fun cl ax hcl hax => ?_))
    refine ⟨fun _ => ?_, fun h9 => absurd h9 (by decide)⟩
    refine ⟨vl 1 rfl rfl, ?_⟩
    refine hK _ _ ⟨?_, rfl, h⟩
    show some (Value.int (A 2 2)) = some (Value.int (A 75 1))
    rw [hice.1.2.2]
  · subst c
    refine hK _ _ ?_
    clear hcl hax
    clear cl ax
    refine mCall_k (fun K hK => ?_)
    refine mCall_sem MX9_now rfl rfl (Or.inl ⟨rfl, rfl, rfl⟩) rfl (mSem_wp MX9_now rfl aX9_now 300 [] (fun cl ax hcl hax => ?_))
    refine ⟨fun h9 => absurd h9 (by decide), fun _ => ?_⟩
    refine ⟨fun _ => ?_, fun h9 => absurd h9 (by decide)⟩
    refine ⟨vl 0 rfl rfl, ?_⟩
    refine hK _ _ ⟨?_, rfl, h⟩
    show some (Value.int (A 2 0)) = some (Value.int (A 75 0))
    rw [hice.1.1]
  · subst c
    refine hK _ _ ?_
    clear hcl hax
    clear cl ax
    refine mCall_k (fun K hK => ?_)
    refine mCall_sem MX9_now rfl rfl (Or.inl ⟨rfl, rfl, rfl⟩) rfl (mSem_wp MX9_now rfl aX9_now 300 [] (fun cl ax hcl hax => ?_))
    refine ⟨fun h9 => absurd h9 (by decide), fun _ => ?_⟩
    refine ⟨fun h9 => absurd h9 (by decide), fun _ => ?_⟩
    refine ⟨fun _ => ?_, fun h9 => absurd h9 (by decide)⟩
    refine ⟨vl 2 rfl rfl, ?_⟩
    refine hK _ _ ⟨?_, rfl, h⟩
    show some (Value.int (A 2 1)) = some (Value.int (A 75 2))
    rw [hice.1.2.1]
  · subst c
    refine hcl _ _ _ _ (w_stand k12 kx ?_)
    refine hK _ _ ?_
    clear hcl hax
    clear cl ax
    refine mCall_k (fun K hK => ?_)
    refine mCall_sem MX9_now rfl rfl (Or.inl ⟨rfl, rfl, rfl⟩) rfl (mSem_wp MX9_now rfl aX9_now 300 [55] (fun cl ax hcl hax => ?_))
    refine ⟨fun h9 => absurd h9 (by decide), fun _ => ?_⟩
    refine ⟨fun h9 => absurd h9 (by decide), fun _ => ?_⟩
    refine ⟨fun h9 => absurd h9 (by decide), fun _ => ?_⟩
    refine ⟨fun _ => ?_, fun h9 => absurd h9 (by decide)⟩
    refine hax _ _ _ _ (lp_X9_now k12 km (A 9) (fun j hj => ?_) ?_ 0 (by omega))
    · have := kh j hj
      grind
    · exact hK _ _ ⟨rfl, rfl, h⟩
  · refine hcl _ _ _ _ (w_X8_refuse 0 (by decide) (by decide) ?_)
    refine hK _ _ ?_
    clear hcl hax
    clear cl ax
    refine mCall_k (fun K hK => ?_)
    refine mCall_sem MX9_now rfl rfl (Or.inl ⟨rfl, rfl, rfl⟩) rfl (mSem_wp MX9_now rfl aX9_now 300 [] (fun cl ax hcl hax => ?_))
    refine ⟨fun (c : u = 0) => absurd c c0, fun _ => ⟨fun (c : u = 1) => absurd c c1, fun _ => ⟨fun (c : u = 2) => absurd c c2, fun _ => ⟨fun (c : u = 3) => absurd c c3, fun _ => ?_⟩⟩⟩⟩
    exact hcl _ _ _ _ (w_X9_finding 0 (by decide) (by decide) (hK _ _ (rEnd_cnt h (by decide))))
