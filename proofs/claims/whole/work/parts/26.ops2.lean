/-! hold, turn, haul, of, now, as, house, edge -/
theorem op_hold {E : ME} {v u : Int32} {A : Nat → Nat → Int32} {B : Nat → Nat → Int64} (h : rAll A B) : rOp E nX8_hold nX9_hold [.int v, .int u] A B := by
  obtain ⟨k, k12, kx, km, kh⟩ := rHou_at h.1.2.1
  refine rOp_of (fun K hK => ?_)
  refine mCall_sem MX8_hold rfl rfl (Or.inl ⟨rfl, rfl, rfl⟩) rfl (mSem_wp MX8_hold rfl aX8_hold 300 [] (fun cl ax hcl hax => ?_))
  refine hcl _ _ _ _ (w_X8_isHouse kx (fun a1 a2 => ?_) (fun a0 => ?_))
  · refine ⟨fun h9 => absurd h9 (by decide), fun _ => ?_⟩
    refine hcl _ _ _ _ (w_X8 (fun b1 b2 => ?_) (fun b0 => ?_))
    · refine ⟨fun _ => ?_, fun h9 => absurd h9 (by decide)⟩
      obtain ⟨j, hj, rfl⟩ := ho_ix k12 a1 a2
      have hv : vp_in (nI j) 12 := vp_in_nI (by omega) (by decide)
      refine ⟨hv, ?_⟩
      refine ⟨hv, ?_⟩
      refine hK _ _ ?_
      clear hcl hax
      clear cl ax
      refine mCall_k (fun K hK => ?_)
      refine mCall_sem MX9_hold rfl rfl (Or.inl ⟨rfl, rfl, rfl⟩) rfl (mSem_wp MX9_hold rfl aX9_hold 300 [] (fun cl ax hcl hax => ?_))
      first | refine hcl _ _ _ _ (w_X9_isHouse (n := nI k) km (fun c1 c2 => absurd (And.intro c1 c2) (by assumption)) (fun _ => ?_)) | refine hcl _ _ _ _ (w_X9_isHouse (n := nI k) km (fun _ _ => ?_) (fun c0 => absurd (And.intro (by assumption) (by assumption)) c0))
      refine ⟨fun h9 => absurd h9 (by decide), fun _ => ?_⟩
      first | refine hcl _ _ _ _ (w_X9 (fun c1 c2 => absurd (And.intro c1 c2) (by assumption)) (fun _ => ?_)) | refine hcl _ _ _ _ (w_X9 (fun _ _ => ?_) (fun c0 => absurd (And.intro (by assumption) (by assumption)) c0))
      refine ⟨fun h9 => absurd h9 (by decide), fun _ => ?_⟩
      refine hcl _ _ _ _ (w_become (18 + 5 * j) (by omega) (hIx j 3 _ (by omega)) ?_)
      simp only [msetA, nI_clamp (show j < 2 ^ 31 by omega)]
      refine hK _ _ ⟨?_, rfl, rAll_h3 h km hj k12 b1 b2 (fun e => by omega)⟩
      have := (kh j hj).1
      show some (Value.int (A 8 (nI j).toNatClampNeg)) = some (Value.int (A 75 (18 + 5 * j)))
      rw [nI_clamp (by omega)]
      grind
    · refine ⟨fun h9 => absurd h9 (by decide), fun _ => ?_⟩
      refine hcl _ _ _ _ (w_X8_refuse 0 (by decide) (by decide) ?_)
      refine hK _ _ ?_
      clear hcl hax
      clear cl ax
      refine mCall_k (fun K hK => ?_)
      refine mCall_sem MX9_hold rfl rfl (Or.inl ⟨rfl, rfl, rfl⟩) rfl (mSem_wp MX9_hold rfl aX9_hold 300 [] (fun cl ax hcl hax => ?_))
      first | refine hcl _ _ _ _ (w_X9_isHouse (n := nI k) km (fun c1 c2 => absurd (And.intro c1 c2) (by assumption)) (fun _ => ?_)) | refine hcl _ _ _ _ (w_X9_isHouse (n := nI k) km (fun _ _ => ?_) (fun c0 => absurd (And.intro (by assumption) (by assumption)) c0))
      refine ⟨fun h9 => absurd h9 (by decide), fun _ => ?_⟩
      first | refine hcl _ _ _ _ (w_X9 (fun c1 c2 => absurd (And.intro c1 c2) (by assumption)) (fun _ => ?_)) | refine hcl _ _ _ _ (w_X9 (fun _ _ => ?_) (fun c0 => absurd (And.intro (by assumption) (by assumption)) c0))
      refine ⟨fun _ => ?_, fun h9 => absurd h9 (by decide)⟩
      exact hcl _ _ _ _ (w_X9_finding 0 (by decide) (by decide) (hK _ _ (rEnd_cnt h (by decide))))
  · refine ⟨fun _ => ?_, fun h9 => absurd h9 (by decide)⟩
    refine hcl _ _ _ _ (w_X8_refuse 0 (by decide) (by decide) ?_)
    refine hK _ _ ?_
    clear hcl hax
    clear cl ax
    refine mCall_k (fun K hK => ?_)
    refine mCall_sem MX9_hold rfl rfl (Or.inl ⟨rfl, rfl, rfl⟩) rfl (mSem_wp MX9_hold rfl aX9_hold 300 [] (fun cl ax hcl hax => ?_))
    first | refine hcl _ _ _ _ (w_X9_isHouse (n := nI k) km (fun c1 c2 => absurd (And.intro c1 c2) (by assumption)) (fun _ => ?_)) | refine hcl _ _ _ _ (w_X9_isHouse (n := nI k) km (fun _ _ => ?_) (fun c0 => absurd (And.intro (by assumption) (by assumption)) c0))
    refine ⟨fun _ => ?_, fun h9 => absurd h9 (by decide)⟩
    exact hcl _ _ _ _ (w_X9_finding 0 (by decide) (by decide) (hK _ _ (rEnd_cnt h (by decide))))
theorem op_turn {E : ME} {v u : Int32} {A : Nat → Nat → Int32} {B : Nat → Nat → Int64} (h : rAll A B) : rOp E nX8_turn nX9_turn [.int v, .int u] A B := by
  obtain ⟨k, k12, kx, km, kh⟩ := rHou_at h.1.2.1
  refine rOp_of (fun K hK => ?_)
  refine mCall_sem MX8_turn rfl rfl (Or.inl ⟨rfl, rfl, rfl⟩) rfl (mSem_wp MX8_turn rfl aX8_turn 300 [] (fun cl ax hcl hax => ?_))
  refine hcl _ _ _ _ (w_X8_isHouse kx (fun a1 a2 => ?_) (fun a0 => ?_))
  · refine ⟨fun h9 => absurd h9 (by decide), fun _ => ?_⟩
    refine hcl _ _ _ _ (w_X8_isKind (fun b1 b2 => ?_) (fun b0 => ?_))
    · refine ⟨fun _ => ?_, fun h9 => absurd h9 (by decide)⟩
      obtain ⟨j, hj, rfl⟩ := ho_ix k12 a1 a2
      have hv : vp_in (nI j) 12 := vp_in_nI (by omega) (by decide)
      refine ⟨hv, ?_⟩
      refine ⟨hv, ?_⟩
      refine hK _ _ ?_
      clear hcl hax
      clear cl ax
      refine mCall_k (fun K hK => ?_)
      refine mCall_sem MX9_turn rfl rfl (Or.inl ⟨rfl, rfl, rfl⟩) rfl (mSem_wp MX9_turn rfl aX9_turn 300 [] (fun cl ax hcl hax => ?_))
      first | refine hcl _ _ _ _ (w_X9_isHouse (n := nI k) km (fun c1 c2 => absurd (And.intro c1 c2) (by assumption)) (fun _ => ?_)) | refine hcl _ _ _ _ (w_X9_isHouse (n := nI k) km (fun _ _ => ?_) (fun c0 => absurd (And.intro (by assumption) (by assumption)) c0))
      refine ⟨fun h9 => absurd h9 (by decide), fun _ => ?_⟩
      first | refine hcl _ _ _ _ (w_X9 (fun c1 c2 => absurd (And.intro c1 c2) (by assumption)) (fun _ => ?_)) | refine hcl _ _ _ _ (w_X9 (fun _ _ => ?_) (fun c0 => absurd (And.intro (by assumption) (by assumption)) c0))
      refine ⟨fun h9 => absurd h9 (by decide), fun _ => ?_⟩
      refine hcl _ _ _ _ (w_become (15 + 5 * j) (by omega) (hIx j 0 _ (by omega)) ?_)
      simp only [msetA, nI_clamp (show j < 2 ^ 31 by omega)]
      refine hK _ _ ⟨?_, rfl, rAll_h0 h km hj k12 b1 b2 (fun e => by omega)⟩
      have := (kh j hj).1
      show some (Value.int (A 5 (nI j).toNatClampNeg)) = some (Value.int (A 75 (15 + 5 * j)))
      rw [nI_clamp (by omega)]
      grind
    · refine ⟨fun h9 => absurd h9 (by decide), fun _ => ?_⟩
      refine hcl _ _ _ _ (w_X8_refuse 0 (by decide) (by decide) ?_)
      refine hK _ _ ?_
      clear hcl hax
      clear cl ax
      refine mCall_k (fun K hK => ?_)
      refine mCall_sem MX9_turn rfl rfl (Or.inl ⟨rfl, rfl, rfl⟩) rfl (mSem_wp MX9_turn rfl aX9_turn 300 [] (fun cl ax hcl hax => ?_))
      first | refine hcl _ _ _ _ (w_X9_isHouse (n := nI k) km (fun c1 c2 => absurd (And.intro c1 c2) (by assumption)) (fun _ => ?_)) | refine hcl _ _ _ _ (w_X9_isHouse (n := nI k) km (fun _ _ => ?_) (fun c0 => absurd (And.intro (by assumption) (by assumption)) c0))
      refine ⟨fun h9 => absurd h9 (by decide), fun _ => ?_⟩
      first | refine hcl _ _ _ _ (w_X9 (fun c1 c2 => absurd (And.intro c1 c2) (by assumption)) (fun _ => ?_)) | refine hcl _ _ _ _ (w_X9 (fun _ _ => ?_) (fun c0 => absurd (And.intro (by assumption) (by assumption)) c0))
      refine ⟨fun _ => ?_, fun h9 => absurd h9 (by decide)⟩
      exact hcl _ _ _ _ (w_X9_finding 0 (by decide) (by decide) (hK _ _ (rEnd_cnt h (by decide))))
  · refine ⟨fun _ => ?_, fun h9 => absurd h9 (by decide)⟩
    refine hcl _ _ _ _ (w_X8_refuse 0 (by decide) (by decide) ?_)
    refine hK _ _ ?_
    clear hcl hax
    clear cl ax
    refine mCall_k (fun K hK => ?_)
    refine mCall_sem MX9_turn rfl rfl (Or.inl ⟨rfl, rfl, rfl⟩) rfl (mSem_wp MX9_turn rfl aX9_turn 300 [] (fun cl ax hcl hax => ?_))
    first | refine hcl _ _ _ _ (w_X9_isHouse (n := nI k) km (fun c1 c2 => absurd (And.intro c1 c2) (by assumption)) (fun _ => ?_)) | refine hcl _ _ _ _ (w_X9_isHouse (n := nI k) km (fun _ _ => ?_) (fun c0 => absurd (And.intro (by assumption) (by assumption)) c0))
    refine ⟨fun _ => ?_, fun h9 => absurd h9 (by decide)⟩
    exact hcl _ _ _ _ (w_X9_finding 0 (by decide) (by decide) (hK _ _ (rEnd_cnt h (by decide))))
theorem op_haul {E : ME} {v u : Int32} {A : Nat → Nat → Int32} {B : Nat → Nat → Int64} (h : rAll A B) : rOp E nX8_haul nX9_haul [.int v, .int u] A B := by
  obtain ⟨k, k12, kx, km, kh⟩ := rHou_at h.1.2.1
  refine rOp_of (fun K hK => ?_)
  refine mCall_sem MX8_haul rfl rfl (Or.inl ⟨rfl, rfl, rfl⟩) rfl (mSem_wp MX8_haul rfl aX8_haul 300 [] (fun cl ax hcl hax => ?_))
  refine hcl _ _ _ _ (w_X8_isHouse kx (fun a1 a2 => ?_) (fun a0 => ?_))
  · refine ⟨fun h9 => absurd h9 (by decide), fun _ => ?_⟩
    refine hcl _ _ _ _ (w_X8 (fun b1 b2 => ?_) (fun b0 => ?_))
    · refine ⟨fun _ => ?_, fun h9 => absurd h9 (by decide)⟩
      obtain ⟨j, hj, rfl⟩ := ho_ix k12 a1 a2
      have kj := kh j hj
      have e8 : (nI j).toNatClampNeg = j := nI_clamp (by omega)
      have hv : vp_in (nI j) 12 := vp_in_nI (by omega) (by decide)
      have e9 := hIx j 2 (17 + 5 * j) (by omega)
      have e7 : (nI (17 + 5 * j)).toNatClampNeg = 17 + 5 * j := nI_clamp (by omega)
      have hv2 : vp_in (15 + 5 * nI j + 2) 135 := by
        rw [show (2 : Int32) = nI 2 from rfl, e9]
        exact vp_in_nI (by omega) (by decide)
      refine ⟨hv, ?_⟩
      refine ⟨fun c => ?_, fun c => ?_⟩
      · have c : A 9 j = 0 := by rw [← e8]; exact c
        refine ⟨hv, ?_⟩
        refine ⟨hv, ?_⟩
        refine ⟨hv, ?_⟩
        refine hK _ _ ?_
        clear hcl hax
        clear cl ax
        refine mCall_k (fun K hK => ?_)
        refine mCall_sem MX9_haul rfl rfl (Or.inl ⟨rfl, rfl, rfl⟩) rfl (mSem_wp MX9_haul rfl aX9_haul 300 [] (fun cl ax hcl hax => ?_))
        first | refine hcl _ _ _ _ (w_X9_isHouse (n := nI k) km (fun c1 c2 => absurd (And.intro c1 c2) (by assumption)) (fun _ => ?_)) | refine hcl _ _ _ _ (w_X9_isHouse (n := nI k) km (fun _ _ => ?_) (fun c0 => absurd (And.intro (by assumption) (by assumption)) c0))
        refine ⟨fun h9 => absurd h9 (by decide), fun _ => ?_⟩
        first | refine hcl _ _ _ _ (w_X9 (fun c1 c2 => absurd (And.intro c1 c2) (by assumption)) (fun _ => ?_)) | refine hcl _ _ _ _ (w_X9 (fun _ _ => ?_) (fun c0 => absurd (And.intro (by assumption) (by assumption)) c0))
        refine ⟨fun _ => ?_, fun h9 => absurd h9 (by decide)⟩
        refine hcl _ _ _ _ (w_isGone j (by omega) (fun c2 => ?_) (fun c2 => ?_))
        · exfalso
          have c2 : A 75 (19 + 5 * j) = 1 := c2
          grind
        · refine ⟨fun _ => ?_, fun h9 => absurd h9 (by decide)⟩
          refine ⟨hv2, ?_⟩
          refine ⟨hv2, ?_⟩
          refine ⟨hv2, ?_⟩
          refine hK _ _ ?_
          simp only [msetA, e8, show (2 : Int32) = nI 2 from rfl, e9, e7]
          have hf : A 7 j = A 75 (17 + 5 * j) := kj.1.2.2.1
          have hr : 0 ≤ A 75 (17 + 5 * j) - mn u (A 75 (17 + 5 * j)) ∧ A 75 (17 + 5 * j) - mn u (A 75 (17 + 5 * j)) ≤ A 75 (17 + 5 * j) := by
            unfold mn
            split <;> grind
          refine ⟨?_, rfl, ?_⟩
          · show some (Value.int (mn u (A 7 j))) = some (Value.int (mn u (A 75 (17 + 5 * j))))
            rw [hf]
          · show rAll (va_up (va_up A 7 (upd (A 7) j (A 7 j - mn u (A 7 j)))) 75 (upd (A 75) (17 + 5 * j) (A 75 (17 + 5 * j) - mn u (A 75 (17 + 5 * j))))) B
            rw [hf]
            exact rAll_h2 h km hj k12 hr.1 (by grind) (fun _ => Or.inl (by grind))
      · have c : ¬ A 9 j = 0 := by rw [← e8]; exact c
        refine hcl _ _ _ _ (w_X8_refuse 4 (by decide) (by decide) ?_)
        refine hK _ _ ?_
        clear hcl hax
        clear cl ax
        refine mCall_k (fun K hK => ?_)
        refine mCall_sem MX9_haul rfl rfl (Or.inl ⟨rfl, rfl, rfl⟩) rfl (mSem_wp MX9_haul rfl aX9_haul 300 [] (fun cl ax hcl hax => ?_))
        first | refine hcl _ _ _ _ (w_X9_isHouse (n := nI k) km (fun c1 c2 => absurd (And.intro c1 c2) (by assumption)) (fun _ => ?_)) | refine hcl _ _ _ _ (w_X9_isHouse (n := nI k) km (fun _ _ => ?_) (fun c0 => absurd (And.intro (by assumption) (by assumption)) c0))
        refine ⟨fun h9 => absurd h9 (by decide), fun _ => ?_⟩
        first | refine hcl _ _ _ _ (w_X9 (fun c1 c2 => absurd (And.intro c1 c2) (by assumption)) (fun _ => ?_)) | refine hcl _ _ _ _ (w_X9 (fun _ _ => ?_) (fun c0 => absurd (And.intro (by assumption) (by assumption)) c0))
        refine ⟨fun _ => ?_, fun h9 => absurd h9 (by decide)⟩
        refine hcl _ _ _ _ (w_isGone j (by omega) (fun c2 => ?_) (fun c2 => ?_))
        · refine ⟨fun h9 => absurd h9 (by decide), fun _ => ?_⟩
          exact hcl _ _ _ _ (w_X9_finding 4 (by decide) (by decide) (hK _ _ (rEnd_cnt h (by decide))))
        · exfalso
          have c2 : ¬ A 75 (19 + 5 * j) = 1 := c2
          grind
    · refine ⟨fun h9 => absurd h9 (by decide), fun _ => ?_⟩
      refine hcl _ _ _ _ (w_X8_refuse 0 (by decide) (by decide) ?_)
      refine hK _ _ ?_
      clear hcl hax
      clear cl ax
      refine mCall_k (fun K hK => ?_)
      refine mCall_sem MX9_haul rfl rfl (Or.inl ⟨rfl, rfl, rfl⟩) rfl (mSem_wp MX9_haul rfl aX9_haul 300 [] (fun cl ax hcl hax => ?_))
      first | refine hcl _ _ _ _ (w_X9_isHouse (n := nI k) km (fun c1 c2 => absurd (And.intro c1 c2) (by assumption)) (fun _ => ?_)) | refine hcl _ _ _ _ (w_X9_isHouse (n := nI k) km (fun _ _ => ?_) (fun c0 => absurd (And.intro (by assumption) (by assumption)) c0))
      refine ⟨fun h9 => absurd h9 (by decide), fun _ => ?_⟩
      first | refine hcl _ _ _ _ (w_X9 (fun c1 c2 => absurd (And.intro c1 c2) (by assumption)) (fun _ => ?_)) | refine hcl _ _ _ _ (w_X9 (fun _ _ => ?_) (fun c0 => absurd (And.intro (by assumption) (by assumption)) c0))
      refine ⟨fun h9 => absurd h9 (by decide), fun _ => ?_⟩
      exact hcl _ _ _ _ (w_X9_finding 0 (by decide) (by decide) (hK _ _ (rEnd_cnt h (by decide))))
  · refine ⟨fun _ => ?_, fun h9 => absurd h9 (by decide)⟩
    refine hcl _ _ _ _ (w_X8_refuse 0 (by decide) (by decide) ?_)
    refine hK _ _ ?_
    clear hcl hax
    clear cl ax
    refine mCall_k (fun K hK => ?_)
    refine mCall_sem MX9_haul rfl rfl (Or.inl ⟨rfl, rfl, rfl⟩) rfl (mSem_wp MX9_haul rfl aX9_haul 300 [] (fun cl ax hcl hax => ?_))
    first | refine hcl _ _ _ _ (w_X9_isHouse (n := nI k) km (fun c1 c2 => absurd (And.intro c1 c2) (by assumption)) (fun _ => ?_)) | refine hcl _ _ _ _ (w_X9_isHouse (n := nI k) km (fun _ _ => ?_) (fun c0 => absurd (And.intro (by assumption) (by assumption)) c0))
    refine ⟨fun _ => ?_, fun h9 => absurd h9 (by decide)⟩
    exact hcl _ _ _ _ (w_X9_finding 0 (by decide) (by decide) (hK _ _ (rEnd_cnt h (by decide))))
