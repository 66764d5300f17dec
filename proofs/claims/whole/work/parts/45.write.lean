/-! sheet, the operation -/
theorem op_sheet {E : ME} {v u w : Int32} {A : Nat → Nat → Int32} {B : Nat → Nat → Int64} (h : rAll A B) : rOp E nX8_sheet nX9_sheet [.int v, .int u, .int w] A B := by
  refine rOp_of (fun K hK => ?_)
  by_cases ha : ¬ (0 ≤ v ∧ v ≤ 3)
  · exact sh8_no ha (hK _ _ (mCall_k (fun K hK => sh9_no ha (hK _ _ (rEnd_cnt h (by decide))))))
  have ha := Classical.not_not.mp ha
  obtain ⟨a1, a2⟩ := ha
  by_cases hu : ¬ (u = 0 ∨ u = 8 ∨ u = 16 ∨ u = 64)
  · exact sh8_bad a1 a2 hu (hK _ _ (mCall_k (fun K hK => sh9_bad a1 a2 hu (hK _ _ (rEnd_cnt h (by decide))))))
  have hu := Classical.not_not.mp hu
  by_cases w0 : ¬ (0 ≤ w)
  · exact sh8_neg a1 a2 hu w0 (hK _ _ (mCall_k (fun K hK => sh9_neg a1 a2 hu w0 (hK _ _ (rEnd_cnt h (by decide))))))
  have w0 := Classical.not_not.mp w0
  by_cases w40 : ¬ (w ≤ 40)
  · exact sh8_big a1 a2 hu w0 w40 (hK _ _ (mCall_k (fun K hK => sh9_big a1 a2 hu w0 w40 (hK _ _ (rEnd_cnt h (by decide))))))
  have w40 := Classical.not_not.mp w40
  obtain ⟨n, hn, rfl⟩ := ix_le 40 w0 w40 rfl
  obtain ⟨m, hm, ez⟩ : ∃ m, m ≤ 40 ∧ nI m = if u = 0 then 0 else nI n := by
    by_cases c : u = 0
    · exact ⟨0, by omega, by rw [if_pos c]; rfl⟩
    · exact ⟨n, hn, by rw [if_neg c]⟩
  obtain ⟨s, hs, rfl⟩ := ix_le 3 a1 a2 rfl
  obtain ⟨r0, r1, r2, r3⟩ := h.2.2.2.2
  rcases (show s = 0 ∨ s = 1 ∨ s = 2 ∨ s = 3 by omega) with rfl | rfl | rfl | rfl
  · refine sh8_ok0 hu w0 w40 ez (fun L hL => hK _ _ (mCall_k (fun K hK => sh9_ok (s := 0) (by decide) hu w0 w40 ez (fun L2 hL2 => hK _ _ ⟨rfl, rfl, h.1, h.2.1, h.2.2.1, h.2.2.2.1, ?_, ?_, ?_, ?_⟩))))
    · exact rS1_new (s := 0) hu hm ⟨rfl, rfl⟩ rfl rfl hL hL2.2.2
    · exact rS1_c r1 ⟨rfl, rfl⟩ rfl rfl (fun _ _ => rfl) (fun j hj => hL2.2.1 _ (by omega))
    · exact rS1_c r2 ⟨rfl, rfl⟩ rfl rfl (fun _ _ => rfl) (fun j hj => hL2.2.1 _ (by omega))
    · exact rS1_c r3 ⟨rfl, rfl⟩ rfl rfl (fun _ _ => rfl) (fun j hj => hL2.2.1 _ (by omega))
  · refine sh8_ok1 hu w0 w40 ez (fun L hL => hK _ _ (mCall_k (fun K hK => sh9_ok (s := 1) (by decide) hu w0 w40 ez (fun L2 hL2 => hK _ _ ⟨rfl, rfl, h.1, h.2.1, h.2.2.1, h.2.2.2.1, ?_, ?_, ?_, ?_⟩))))
    · exact rS1_c r0 ⟨rfl, rfl⟩ rfl rfl (fun _ _ => rfl) (fun j hj => hL2.2.1 _ (by omega))
    · exact rS1_new (s := 1) hu hm ⟨rfl, rfl⟩ rfl rfl hL hL2.2.2
    · exact rS1_c r2 ⟨rfl, rfl⟩ rfl rfl (fun _ _ => rfl) (fun j hj => hL2.2.1 _ (by omega))
    · exact rS1_c r3 ⟨rfl, rfl⟩ rfl rfl (fun _ _ => rfl) (fun j hj => hL2.2.1 _ (by omega))
  · refine sh8_ok2 hu w0 w40 ez (fun L hL => hK _ _ (mCall_k (fun K hK => sh9_ok (s := 2) (by decide) hu w0 w40 ez (fun L2 hL2 => hK _ _ ⟨rfl, rfl, h.1, h.2.1, h.2.2.1, h.2.2.2.1, ?_, ?_, ?_, ?_⟩))))
    · exact rS1_c r0 ⟨rfl, rfl⟩ rfl rfl (fun _ _ => rfl) (fun j hj => hL2.2.1 _ (by omega))
    · exact rS1_c r1 ⟨rfl, rfl⟩ rfl rfl (fun _ _ => rfl) (fun j hj => hL2.2.1 _ (by omega))
    · exact rS1_new (s := 2) hu hm ⟨rfl, rfl⟩ rfl rfl hL hL2.2.2
    · exact rS1_c r3 ⟨rfl, rfl⟩ rfl rfl (fun _ _ => rfl) (fun j hj => hL2.2.1 _ (by omega))
  · refine sh8_ok3 hu w0 w40 ez (fun L hL => hK _ _ (mCall_k (fun K hK => sh9_ok (s := 3) (by decide) hu w0 w40 ez (fun L2 hL2 => hK _ _ ⟨rfl, rfl, h.1, h.2.1, h.2.2.1, h.2.2.2.1, ?_, ?_, ?_, ?_⟩))))
    · exact rS1_c r0 ⟨rfl, rfl⟩ rfl rfl (fun _ _ => rfl) (fun j hj => hL2.2.1 _ (by omega))
    · exact rS1_c r1 ⟨rfl, rfl⟩ rfl rfl (fun _ _ => rfl) (fun j hj => hL2.2.1 _ (by omega))
    · exact rS1_c r2 ⟨rfl, rfl⟩ rfl rfl (fun _ _ => rfl) (fun j hj => hL2.2.1 _ (by omega))
    · exact rS1_new (s := 3) hu hm ⟨rfl, rfl⟩ rfl rfl hL hL2.2.2
/-! write -/
def cut (x : Int64) (w : Int32) : Int64 := if w = 8 then x.toInt32.toInt8.toInt32.toInt64 else if w = 16 then x.toInt32.toInt16.toInt32.toInt64 else x
theorem w_cutTo {E : ME} {d : Nat} {x : Int64} {w : Int32} {h : MH} {K : MK} (hK : K (some (.long (cut x w))) h) : mCall E d nX9_cutTo [.long x, .int w] h K := by
  unfold cut at hK
  refine mCall_sem MX9_cutTo rfl rfl (Or.inl ⟨rfl, rfl, rfl⟩) rfl (mSem_wp MX9_cutTo rfl aX9_cutTo 300 [] (fun cl ax hcl hax => ?_))
  refine ⟨fun c => ?_, fun c => ?_⟩
  · rw [if_neg c] at hK
    refine ⟨fun c2 => ?_, fun c2 => ?_⟩
    · rw [if_neg c2] at hK; exact hK
    · rw [if_pos c2] at hK; exact hK
  · rw [if_pos c] at hK; exact hK
theorem w_put65 {E : ME} {d : Nat} {x : Int64} {i : Nat} {A : Nat → Nat → Int32} {B : Nat → Nat → Int64} {K : MK} (hi : i < 40) (hK : K none (SH, A, va_up B 66 (vp_updL (B 66) i (cut x (A 65 0))))) : mCall E d nX3_put [.ref 65, .int (nI i), .long x] (SH, A, B) K := by
  have hv : vp_in (nI i) 40 := vp_in_nI (by omega) (by decide)
  have e8 : i = (nI i).toNatClampNeg := (nI_clamp (by omega)).symm
  unfold cut at hK
  rw [e8] at hK
  refine mCall_sem MX3_put rfl rfl (Or.inl ⟨rfl, rfl, rfl⟩) rfl (mSem_wp MX3_put rfl aX3_put 300 [] (fun cl ax hcl hax => ?_))
  refine ⟨fun (c : ¬ A 65 0 = 8) => ?_, fun (c : A 65 0 = 8) => ?_⟩
  · rw [if_neg c] at hK
    refine ⟨fun (c2 : ¬ A 65 0 = 16) => ?_, fun (c2 : A 65 0 = 16) => ?_⟩
    · rw [if_neg c2] at hK
      exact ⟨hv, hK⟩
    · rw [if_pos c2] at hK
      exact ⟨hv, hK⟩
  · rw [if_pos c] at hK
    exact ⟨hv, hK⟩
theorem w_put67 {E : ME} {d : Nat} {x : Int64} {i : Nat} {A : Nat → Nat → Int32} {B : Nat → Nat → Int64} {K : MK} (hi : i < 40) (hK : K none (SH, A, va_up B 68 (vp_updL (B 68) i (cut x (A 67 0))))) : mCall E d nX3_put [.ref 67, .int (nI i), .long x] (SH, A, B) K := by
  have hv : vp_in (nI i) 40 := vp_in_nI (by omega) (by decide)
  have e8 : i = (nI i).toNatClampNeg := (nI_clamp (by omega)).symm
  unfold cut at hK
  rw [e8] at hK
  refine mCall_sem MX3_put rfl rfl (Or.inl ⟨rfl, rfl, rfl⟩) rfl (mSem_wp MX3_put rfl aX3_put 300 [] (fun cl ax hcl hax => ?_))
  refine ⟨fun (c : ¬ A 67 0 = 8) => ?_, fun (c : A 67 0 = 8) => ?_⟩
  · rw [if_neg c] at hK
    refine ⟨fun (c2 : ¬ A 67 0 = 16) => ?_, fun (c2 : A 67 0 = 16) => ?_⟩
    · rw [if_neg c2] at hK
      exact ⟨hv, hK⟩
    · rw [if_pos c2] at hK
      exact ⟨hv, hK⟩
  · rw [if_pos c] at hK
    exact ⟨hv, hK⟩
theorem w_put69 {E : ME} {d : Nat} {x : Int64} {i : Nat} {A : Nat → Nat → Int32} {B : Nat → Nat → Int64} {K : MK} (hi : i < 40) (hK : K none (SH, A, va_up B 70 (vp_updL (B 70) i (cut x (A 69 0))))) : mCall E d nX3_put [.ref 69, .int (nI i), .long x] (SH, A, B) K := by
  have hv : vp_in (nI i) 40 := vp_in_nI (by omega) (by decide)
  have e8 : i = (nI i).toNatClampNeg := (nI_clamp (by omega)).symm
  unfold cut at hK
  rw [e8] at hK
  refine mCall_sem MX3_put rfl rfl (Or.inl ⟨rfl, rfl, rfl⟩) rfl (mSem_wp MX3_put rfl aX3_put 300 [] (fun cl ax hcl hax => ?_))
  refine ⟨fun (c : ¬ A 69 0 = 8) => ?_, fun (c : A 69 0 = 8) => ?_⟩
  · rw [if_neg c] at hK
    refine ⟨fun (c2 : ¬ A 69 0 = 16) => ?_, fun (c2 : A 69 0 = 16) => ?_⟩
    · rw [if_neg c2] at hK
      exact ⟨hv, hK⟩
    · rw [if_pos c2] at hK
      exact ⟨hv, hK⟩
  · rw [if_pos c] at hK
    exact ⟨hv, hK⟩
theorem w_put71 {E : ME} {d : Nat} {x : Int64} {i : Nat} {A : Nat → Nat → Int32} {B : Nat → Nat → Int64} {K : MK} (hi : i < 40) (hK : K none (SH, A, va_up B 72 (vp_updL (B 72) i (cut x (A 71 0))))) : mCall E d nX3_put [.ref 71, .int (nI i), .long x] (SH, A, B) K := by
  have hv : vp_in (nI i) 40 := vp_in_nI (by omega) (by decide)
  have e8 : i = (nI i).toNatClampNeg := (nI_clamp (by omega)).symm
  unfold cut at hK
  rw [e8] at hK
  refine mCall_sem MX3_put rfl rfl (Or.inl ⟨rfl, rfl, rfl⟩) rfl (mSem_wp MX3_put rfl aX3_put 300 [] (fun cl ax hcl hax => ?_))
  refine ⟨fun (c : ¬ A 71 0 = 8) => ?_, fun (c : A 71 0 = 8) => ?_⟩
  · rw [if_neg c] at hK
    refine ⟨fun (c2 : ¬ A 71 0 = 16) => ?_, fun (c2 : A 71 0 = 16) => ?_⟩
    · rw [if_neg c2] at hK
      exact ⟨hv, hK⟩
    · rw [if_pos c2] at hK
      exact ⟨hv, hK⟩
  · rw [if_pos c] at hK
    exact ⟨hv, hK⟩
