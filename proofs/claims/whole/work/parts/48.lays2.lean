/-! lays, the operation -/
theorem su_pc {L L2 : Nat → Int64} {m : Nat} (h : ∀ q, q < m → L q = L2 q) : su (pc L) m = su (pc L2) m := su_c m (fun j hj => by unfold pc; rw [h j hj])
theorem op_lays {E : ME} {v : Int32} {A : Nat → Nat → Int32} {B : Nat → Nat → Int64} (h : rAll A B) : rOp E nX8_lays nX9_lays [.int v] A B := by
  refine rOp_of (fun K hK => ?_)
  by_cases ha : ¬ (0 ≤ v ∧ v ≤ 3)
  · refine mCall_sem MX8_lays rfl rfl (Or.inl ⟨rfl, rfl, rfl⟩) rfl (mSem_wp MX8_lays rfl aX8_lays 300 [] (fun cl ax hcl hax => ?_))
    refine hcl _ _ _ _ (w_X8_isSheet (fun c1 c2 => absurd (And.intro c1 c2) ha) (fun _ => ?_))
    refine ⟨fun h9 => absurd h9 (by decide), fun _ => ?_⟩
    refine hcl _ _ _ _ (w_X8_refuse 0 (by decide) (by decide) ?_)
    refine hK _ _ ?_
    clear hcl hax
    clear cl ax
    refine mCall_k (fun K hK => ?_)
    refine mCall_sem MX9_lays rfl rfl (Or.inl ⟨rfl, rfl, rfl⟩) rfl (mSem_wp MX9_lays rfl aX9_lays 300 [] (fun cl ax hcl hax => ?_))
    refine hcl _ _ _ _ (w_X9_isSheet (fun c1 c2 => absurd (And.intro c1 c2) ha) (fun _ => ?_))
    refine ⟨fun h9 => absurd h9 (by decide), fun _ => ?_⟩
    exact hcl _ _ _ _ (w_X9_finding 0 (by decide) (by decide) (hK _ _ (rEnd_cnt h (by decide))))
  have ha := Classical.not_not.mp ha
  obtain ⟨s, hs, rfl⟩ := ix_le 3 ha.1 ha.2 rfl
  obtain ⟨r0, r1, r2, r3⟩ := h.2.2.2.2
  have e3 : va_up A 3 (A 3) = A := by
    funext q
    unfold va_up
    split
    · rename_i c; rw [c]
    · rfl
  rcases (show s = 0 ∨ s = 1 ∨ s = 2 ∨ s = 3 by omega) with rfl | rfl | rfl | rfl
  · have e0 := r0.1
    obtain ⟨k, hk, k1, k2⟩ := r0.2.2.1
    refine mCall_sem MX8_lays rfl rfl (Or.inl ⟨rfl, rfl, rfl⟩) rfl (mSem_wp MX8_lays rfl aX8_lays 300 [41] (fun cl ax hcl hax => ?_))
    refine hcl _ _ _ _ (w_X8_isSheet (fun _ _ => ?_) (fun c0 => absurd (by decide) c0))
    refine ⟨fun _ => ?_, fun h9 => absurd h9 (by decide)⟩
    refine ⟨vl 0 rfl rfl, ?_⟩
    refine hcl _ _ _ _ (w_miss65 (fun c => ?_) (fun c => ?_))
    · refine ⟨fun h9 => absurd h9 (by decide), fun _ => ?_⟩
      refine hcl _ _ _ _ (w_X8_refuse 5 (by decide) (by decide) ?_)
      refine hK _ _ ?_
      clear hcl hax
      clear cl ax
      refine mCall_k (fun K hK => ?_)
      refine mCall_sem MX9_lays rfl rfl (Or.inl ⟨rfl, rfl, rfl⟩) rfl (mSem_wp MX9_lays rfl aX9_lays 300 [] (fun cl ax hcl hax => ?_))
      refine hcl _ _ _ _ (w_X9_isSheet (fun _ _ => ?_) (fun c0 => absurd (by decide) c0))
      refine ⟨fun _ => ?_, fun h9 => absurd h9 (by decide)⟩
      refine ⟨vl 0 rfl rfl, ?_⟩
      refine ⟨fun (c3 : ¬ A 82 0 = 0) => absurd (e0.symm.trans c) c3, fun _ => ?_⟩
      exact hcl _ _ _ _ (w_X9_finding 5 (by decide) (by decide) (hK _ _ (rEnd_cnt h (by decide))))
    · refine ⟨fun _ => ?_, fun h9 => absurd h9 (by decide)⟩
      have this := lp_X8_lays65 (E := E) (d := 12) (A := A) (A0 := A) (B := B) (K := K) (v := nI 0) (m := min 9 k) hk k1 rfl (fun P hP => ?_) (0, none, A 3) ⟨by omega, fun q hq => absurd hq (by simp), fun _ _ => rfl⟩
      · rw [e3] at this
        exact hax _ _ _ _ this
      · have hq : ∀ q, q < min 9 k → B 66 q = B 84 (40 * 0 + q) := fun q hq => r0.2.2.2 q (by omega)
        refine hK _ _ ?_
        clear hcl hax
        clear cl ax
        refine mCall_k (fun K hK => ?_)
        refine mCall_sem MX9_lays rfl rfl (Or.inl ⟨rfl, rfl, rfl⟩) rfl (mSem_wp MX9_lays rfl aX9_lays 300 [35] (fun cl ax hcl hax => ?_))
        refine hcl _ _ _ _ (w_X9_isSheet (fun _ _ => ?_) (fun c0 => absurd (by decide) c0))
        refine ⟨fun _ => ?_, fun h9 => absurd h9 (by decide)⟩
        refine ⟨vl 0 rfl rfl, ?_⟩
        refine ⟨fun _ => ?_, fun (c3 : A 82 0 = 0) => absurd (e0.trans c3) c⟩
        have e5 : va_up (va_up A 3 P) 75 (A 75) = va_up A 3 P := by
          funext q
          unfold va_up
          split
          · rename_i c; rw [c]; rfl
          · rfl
        have this := lp_X9_lays (E := E) (d := 12) (A := va_up A 3 P) (A0 := va_up A 3 P) (B := B) (K := K) (s := 0) (m := min 9 k) (by decide) hk k2 rfl (A 75) (fun N hN => ?_) (0, none, A 75) ⟨by omega, fun q hq => absurd hq (by simp), fun _ _ => rfl⟩
        · rw [e5] at this
          exact hax _ _ _ _ this
        · exact hK _ _ ⟨by rw [su_pc hq], rfl, rAll_lays h (by omega) hq hP hN⟩
  · have e0 := r1.1
    obtain ⟨k, hk, k1, k2⟩ := r1.2.2.1
    refine mCall_sem MX8_lays rfl rfl (Or.inl ⟨rfl, rfl, rfl⟩) rfl (mSem_wp MX8_lays rfl aX8_lays 300 [41] (fun cl ax hcl hax => ?_))
    refine hcl _ _ _ _ (w_X8_isSheet (fun _ _ => ?_) (fun c0 => absurd (by decide) c0))
    refine ⟨fun _ => ?_, fun h9 => absurd h9 (by decide)⟩
    refine ⟨vl 1 rfl rfl, ?_⟩
    refine hcl _ _ _ _ (w_miss67 (fun c => ?_) (fun c => ?_))
    · refine ⟨fun h9 => absurd h9 (by decide), fun _ => ?_⟩
      refine hcl _ _ _ _ (w_X8_refuse 5 (by decide) (by decide) ?_)
      refine hK _ _ ?_
      clear hcl hax
      clear cl ax
      refine mCall_k (fun K hK => ?_)
      refine mCall_sem MX9_lays rfl rfl (Or.inl ⟨rfl, rfl, rfl⟩) rfl (mSem_wp MX9_lays rfl aX9_lays 300 [] (fun cl ax hcl hax => ?_))
      refine hcl _ _ _ _ (w_X9_isSheet (fun _ _ => ?_) (fun c0 => absurd (by decide) c0))
      refine ⟨fun _ => ?_, fun h9 => absurd h9 (by decide)⟩
      refine ⟨vl 1 rfl rfl, ?_⟩
      refine ⟨fun (c3 : ¬ A 82 1 = 0) => absurd (e0.symm.trans c) c3, fun _ => ?_⟩
      exact hcl _ _ _ _ (w_X9_finding 5 (by decide) (by decide) (hK _ _ (rEnd_cnt h (by decide))))
    · refine ⟨fun _ => ?_, fun h9 => absurd h9 (by decide)⟩
      have this := lp_X8_lays67 (E := E) (d := 12) (A := A) (A0 := A) (B := B) (K := K) (v := nI 1) (m := min 9 k) hk k1 rfl (fun P hP => ?_) (0, none, A 3) ⟨by omega, fun q hq => absurd hq (by simp), fun _ _ => rfl⟩
      · rw [e3] at this
        exact hax _ _ _ _ this
      · have hq : ∀ q, q < min 9 k → B 68 q = B 84 (40 * 1 + q) := fun q hq => r1.2.2.2 q (by omega)
        refine hK _ _ ?_
        clear hcl hax
        clear cl ax
        refine mCall_k (fun K hK => ?_)
        refine mCall_sem MX9_lays rfl rfl (Or.inl ⟨rfl, rfl, rfl⟩) rfl (mSem_wp MX9_lays rfl aX9_lays 300 [35] (fun cl ax hcl hax => ?_))
        refine hcl _ _ _ _ (w_X9_isSheet (fun _ _ => ?_) (fun c0 => absurd (by decide) c0))
        refine ⟨fun _ => ?_, fun h9 => absurd h9 (by decide)⟩
        refine ⟨vl 1 rfl rfl, ?_⟩
        refine ⟨fun _ => ?_, fun (c3 : A 82 1 = 0) => absurd (e0.trans c3) c⟩
        have e5 : va_up (va_up A 3 P) 75 (A 75) = va_up A 3 P := by
          funext q
          unfold va_up
          split
          · rename_i c; rw [c]; rfl
          · rfl
        have this := lp_X9_lays (E := E) (d := 12) (A := va_up A 3 P) (A0 := va_up A 3 P) (B := B) (K := K) (s := 1) (m := min 9 k) (by decide) hk k2 rfl (A 75) (fun N hN => ?_) (0, none, A 75) ⟨by omega, fun q hq => absurd hq (by simp), fun _ _ => rfl⟩
        · rw [e5] at this
          exact hax _ _ _ _ this
        · exact hK _ _ ⟨by rw [su_pc hq], rfl, rAll_lays h (by omega) hq hP hN⟩
  · have e0 := r2.1
    obtain ⟨k, hk, k1, k2⟩ := r2.2.2.1
    refine mCall_sem MX8_lays rfl rfl (Or.inl ⟨rfl, rfl, rfl⟩) rfl (mSem_wp MX8_lays rfl aX8_lays 300 [41] (fun cl ax hcl hax => ?_))
    refine hcl _ _ _ _ (w_X8_isSheet (fun _ _ => ?_) (fun c0 => absurd (by decide) c0))
    refine ⟨fun _ => ?_, fun h9 => absurd h9 (by decide)⟩
    refine ⟨vl 2 rfl rfl, ?_⟩
    refine hcl _ _ _ _ (w_miss69 (fun c => ?_) (fun c => ?_))
    · refine ⟨fun h9 => absurd h9 (by decide), fun _ => ?_⟩
      refine hcl _ _ _ _ (w_X8_refuse 5 (by decide) (by decide) ?_)
      refine hK _ _ ?_
      clear hcl hax
      clear cl ax
      refine mCall_k (fun K hK => ?_)
      refine mCall_sem MX9_lays rfl rfl (Or.inl ⟨rfl, rfl, rfl⟩) rfl (mSem_wp MX9_lays rfl aX9_lays 300 [] (fun cl ax hcl hax => ?_))
      refine hcl _ _ _ _ (w_X9_isSheet (fun _ _ => ?_) (fun c0 => absurd (by decide) c0))
      refine ⟨fun _ => ?_, fun h9 => absurd h9 (by decide)⟩
      refine ⟨vl 2 rfl rfl, ?_⟩
      refine ⟨fun (c3 : ¬ A 82 2 = 0) => absurd (e0.symm.trans c) c3, fun _ => ?_⟩
      exact hcl _ _ _ _ (w_X9_finding 5 (by decide) (by decide) (hK _ _ (rEnd_cnt h (by decide))))
    · refine ⟨fun _ => ?_, fun h9 => absurd h9 (by decide)⟩
      have this := lp_X8_lays69 (E := E) (d := 12) (A := A) (A0 := A) (B := B) (K := K) (v := nI 2) (m := min 9 k) hk k1 rfl (fun P hP => ?_) (0, none, A 3) ⟨by omega, fun q hq => absurd hq (by simp), fun _ _ => rfl⟩
      · rw [e3] at this
        exact hax _ _ _ _ this
      · have hq : ∀ q, q < min 9 k → B 70 q = B 84 (40 * 2 + q) := fun q hq => r2.2.2.2 q (by omega)
        refine hK _ _ ?_
        clear hcl hax
        clear cl ax
        refine mCall_k (fun K hK => ?_)
        refine mCall_sem MX9_lays rfl rfl (Or.inl ⟨rfl, rfl, rfl⟩) rfl (mSem_wp MX9_lays rfl aX9_lays 300 [35] (fun cl ax hcl hax => ?_))
        refine hcl _ _ _ _ (w_X9_isSheet (fun _ _ => ?_) (fun c0 => absurd (by decide) c0))
        refine ⟨fun _ => ?_, fun h9 => absurd h9 (by decide)⟩
        refine ⟨vl 2 rfl rfl, ?_⟩
        refine ⟨fun _ => ?_, fun (c3 : A 82 2 = 0) => absurd (e0.trans c3) c⟩
        have e5 : va_up (va_up A 3 P) 75 (A 75) = va_up A 3 P := by
          funext q
          unfold va_up
          split
          · rename_i c; rw [c]; rfl
          · rfl
        have this := lp_X9_lays (E := E) (d := 12) (A := va_up A 3 P) (A0 := va_up A 3 P) (B := B) (K := K) (s := 2) (m := min 9 k) (by decide) hk k2 rfl (A 75) (fun N hN => ?_) (0, none, A 75) ⟨by omega, fun q hq => absurd hq (by simp), fun _ _ => rfl⟩
        · rw [e5] at this
          exact hax _ _ _ _ this
        · exact hK _ _ ⟨by rw [su_pc hq], rfl, rAll_lays h (by omega) hq hP hN⟩
  · have e0 := r3.1
    obtain ⟨k, hk, k1, k2⟩ := r3.2.2.1
    refine mCall_sem MX8_lays rfl rfl (Or.inl ⟨rfl, rfl, rfl⟩) rfl (mSem_wp MX8_lays rfl aX8_lays 300 [41] (fun cl ax hcl hax => ?_))
    refine hcl _ _ _ _ (w_X8_isSheet (fun _ _ => ?_) (fun c0 => absurd (by decide) c0))
    refine ⟨fun _ => ?_, fun h9 => absurd h9 (by decide)⟩
    refine ⟨vl 3 rfl rfl, ?_⟩
    refine hcl _ _ _ _ (w_miss71 (fun c => ?_) (fun c => ?_))
    · refine ⟨fun h9 => absurd h9 (by decide), fun _ => ?_⟩
      refine hcl _ _ _ _ (w_X8_refuse 5 (by decide) (by decide) ?_)
      refine hK _ _ ?_
      clear hcl hax
      clear cl ax
      refine mCall_k (fun K hK => ?_)
      refine mCall_sem MX9_lays rfl rfl (Or.inl ⟨rfl, rfl, rfl⟩) rfl (mSem_wp MX9_lays rfl aX9_lays 300 [] (fun cl ax hcl hax => ?_))
      refine hcl _ _ _ _ (w_X9_isSheet (fun _ _ => ?_) (fun c0 => absurd (by decide) c0))
      refine ⟨fun _ => ?_, fun h9 => absurd h9 (by decide)⟩
      refine ⟨vl 3 rfl rfl, ?_⟩
      refine ⟨fun (c3 : ¬ A 82 3 = 0) => absurd (e0.symm.trans c) c3, fun _ => ?_⟩
      exact hcl _ _ _ _ (w_X9_finding 5 (by decide) (by decide) (hK _ _ (rEnd_cnt h (by decide))))
    · refine ⟨fun _ => ?_, fun h9 => absurd h9 (by decide)⟩
      have this := lp_X8_lays71 (E := E) (d := 12) (A := A) (A0 := A) (B := B) (K := K) (v := nI 3) (m := min 9 k) hk k1 rfl (fun P hP => ?_) (0, none, A 3) ⟨by omega, fun q hq => absurd hq (by simp), fun _ _ => rfl⟩
      · rw [e3] at this
        exact hax _ _ _ _ this
      · have hq : ∀ q, q < min 9 k → B 72 q = B 84 (40 * 3 + q) := fun q hq => r3.2.2.2 q (by omega)
        refine hK _ _ ?_
        clear hcl hax
        clear cl ax
        refine mCall_k (fun K hK => ?_)
        refine mCall_sem MX9_lays rfl rfl (Or.inl ⟨rfl, rfl, rfl⟩) rfl (mSem_wp MX9_lays rfl aX9_lays 300 [35] (fun cl ax hcl hax => ?_))
        refine hcl _ _ _ _ (w_X9_isSheet (fun _ _ => ?_) (fun c0 => absurd (by decide) c0))
        refine ⟨fun _ => ?_, fun h9 => absurd h9 (by decide)⟩
        refine ⟨vl 3 rfl rfl, ?_⟩
        refine ⟨fun _ => ?_, fun (c3 : A 82 3 = 0) => absurd (e0.trans c3) c⟩
        have e5 : va_up (va_up A 3 P) 75 (A 75) = va_up A 3 P := by
          funext q
          unfold va_up
          split
          · rename_i c; rw [c]; rfl
          · rfl
        have this := lp_X9_lays (E := E) (d := 12) (A := va_up A 3 P) (A0 := va_up A 3 P) (B := B) (K := K) (s := 3) (m := min 9 k) (by decide) hk k2 rfl (A 75) (fun N hN => ?_) (0, none, A 75) ⟨by omega, fun q hq => absurd hq (by simp), fun _ _ => rfl⟩
        · rw [e5] at this
          exact hax _ _ _ _ this
        · exact hK _ _ ⟨by rw [su_pc hq], rfl, rAll_lays h (by omega) hq hP hN⟩
