/-! safe, lost -/
def sb (s : Nat → Int32) (e : Int32) : Nat → Int32
  | 0 => e
  | j + 1 => sb s e j - s j
def sa (s : Nat → Int32) (e : Int32) : Nat → Int32
  | 0 => e
  | j + 1 => sa s e j + s j
theorem sb_c {s t : Nat → Int32} {e : Int32} (h : ∀ j, s j = t j) : ∀ j, sb s e j = sb t e j
  | 0 => rfl
  | j + 1 => by unfold sb; rw [sb_c h j, h j]
theorem sa_c {s t : Nat → Int32} {e : Int32} (h : ∀ j, s j = t j) : ∀ j, sa s e j = sa t e j
  | 0 => rfl
  | j + 1 => by unfold sa; rw [sa_c h j, h j]
theorem SD_ice {A : Nat → Nat → Int32} (hi : rIce A 2 3 75) {kd ln hd y : Int32} (h0 : 0 ≤ ln) (h8 : ln ≤ 8) : SD (A 75 2) (fun q => A 75 (6 + q)) kd ln hd y = SD (A 2 1) (A 3) kd ln hd y := SD_c hi.1.2.1.symm (fun q hq => (hi.2.1 q hq).symm) h0 h8
theorem lp_X8_safe {E : ME} {d : Nat} {A : Nat → Nat → Int32} {B : Nat → Nat → Int64} {K : MK} {m : Nat} (hm : m ≤ 60) {kd ln e : Int32} (l0 : 0 ≤ ln) (l8 : ln ≤ 8) (s : Nat → Int32) (hs : ∀ j, s j = (SD (A 2 1) (A 3) kd ln 5 (A 2 2 + nI j))) (k0 : sb s e m < 0 → K (some (.int (-1000000004))) (SH, cnt1 A 3, B)) (k1 : ¬ sb s e m < 0 → K (some (.int (sb s e m))) (SH, A, B)) : ∀ j, j ≤ m → mSem E (d + 2 + 1) nX8_safe (SH, A, B) 0 0 K 63 [some (.ref 0), some (.int kd), some (.int ln), some (.int (nI m)), some (.int (sb s e j)), some (.int (nI j))] [] (SH, A, B) := by
  refine mSem_loop MX8_safe rfl aX8_safe 300 [63] (fun j => [some (.ref 0), some (.int kd), some (.int ln), some (.int (nI m)), some (.int (sb s e j)), some (.int (nI j))]) (fun j => (SH, A, B)) (fun j => j ≤ m) (fun j => m - j) ?_
  intro j hj cl ax hcl hax hlp
  refine ⟨fun (c : nI m ≤ nI j) => ?_, fun (c : ¬ nI m ≤ nI j) => ?_⟩
  · rw [nI_leI (by omega) (by omega)] at c
    have : j = m := by omega
    subst this
    refine ⟨fun (c : 0 ≤ sb s e j) => ?_, fun (c : ¬ 0 ≤ sb s e j) => ?_⟩
    · exact k1 (by clear hcl hax hlp; grind)
    · refine hcl _ _ _ _ (w_X8_refuse 3 (by decide) (by decide) ?_)
      exact k0 (by clear hcl hax hlp; grind)
  · rw [nI_leI (by omega) (by omega)] at c
    first | refine ⟨vl 1 rfl rfl, ?_⟩ | skip
    refine hcl _ _ _ _ (w_strideL l0 l8 ?_)
    have this : ax 63 [some (.ref 0), some (.int kd), some (.int ln), some (.int (nI m)), some (.int (sb s e (j + 1))), some (.int (nI (j + 1)))] [] (SH, A, B) := hlp (j + 1) (by omega) (by omega)
    rw [← nI_1, sb, hs j] at this
    exact this
theorem lp_X9_safe {E : ME} {d : Nat} {A : Nat → Nat → Int32} {B : Nat → Nat → Int64} {K : MK} {m : Nat} (hm : m ≤ 60) {kd ln e : Int32} (l0 : 0 ≤ ln) (l8 : ln ≤ 8) (s : Nat → Int32) (hs : ∀ j, s j = (SD (A 75 2) (fun q => A 75 (6 + q)) kd ln 5 (A 75 1 + nI j))) (k0 : sb s e m < 0 → K (some (.int (-1000000004))) (SH, cnt2 A 3, B)) (k1 : ¬ sb s e m < 0 → K (some (.int (sb s e m))) (SH, A, B)) : ∀ j, j ≤ m → mSem E (d + 4 + 1) nX9_safe (SH, A, B) 0 0 K 61 [some (.ref 74), some (.int kd), some (.int ln), some (.int (nI m)), some (.int (sb s e j)), some (.int (nI j))] [] (SH, A, B) := by
  refine mSem_loop MX9_safe rfl aX9_safe 300 [61] (fun j => [some (.ref 74), some (.int kd), some (.int ln), some (.int (nI m)), some (.int (sb s e j)), some (.int (nI j))]) (fun j => (SH, A, B)) (fun j => j ≤ m) (fun j => m - j) ?_
  intro j hj cl ax hcl hax hlp
  refine ⟨fun (c : nI m ≤ nI j) => ?_, fun (c : ¬ nI m ≤ nI j) => ?_⟩
  · rw [nI_leI (by omega) (by omega)] at c
    have : j = m := by omega
    subst this
    refine ⟨fun (c : 0 ≤ sb s e j) => ?_, fun (c : ¬ 0 ≤ sb s e j) => ?_⟩
    · exact k1 (by clear hcl hax hlp; grind)
    · refine hcl _ _ _ _ (w_X9_finding 3 (by decide) (by decide) ?_)
      exact k0 (by clear hcl hax hlp; grind)
  · rw [nI_leI (by omega) (by omega)] at c
    first | refine ⟨vl 1 rfl rfl, ?_⟩ | skip
    refine hcl _ _ _ _ (w_stepOfL l0 l8 ?_)
    have this : ax 61 [some (.ref 74), some (.int kd), some (.int ln), some (.int (nI m)), some (.int (sb s e (j + 1))), some (.int (nI (j + 1)))] [] (SH, A, B) := hlp (j + 1) (by omega) (by omega)
    rw [← nI_1, sb, hs j] at this
    exact this
theorem op_safe {E : ME} {v u w : Int32} {A : Nat → Nat → Int32} {B : Nat → Nat → Int64} (h : rAll A B) : rOp E nX8_safe nX9_safe [.int v, .int u, .int w] A B := by
  have hice := h.1.1
  have hy : A 2 2 = A 75 1 := hice.1.2.2
  have he : A 2 0 = A 75 0 := hice.1.1
  refine rOp_of (fun K hK => ?_)
  refine mCall_sem MX8_safe rfl rfl (Or.inl ⟨rfl, rfl, rfl⟩) rfl (mSem_wp MX8_safe rfl aX8_safe 300 [63] (fun cl ax hcl hax => ?_))
  refine hcl _ _ _ _ (w_X8_isKind (fun a1 a2 => ?_) (fun a0 => ?_))
  · refine ⟨fun h9 => absurd h9 (by decide), fun _ => ?_⟩
    refine hcl _ _ _ _ (w_X8_isLane (fun b1 b2 => ?_) (fun b0 => ?_))
    · refine ⟨fun h9 => absurd h9 (by decide), fun _ => ?_⟩
      refine hcl _ _ _ _ (w_X8 (fun d1 d2 => ?_) (fun d0 => ?_))
      · refine ⟨fun _ => ?_, fun h9 => absurd h9 (by decide)⟩
        refine hcl _ _ _ _ (w_X8_isPast (y := A 75 1) hy (fun c => ?_) (fun c => ?_))
        · refine ⟨fun h9 => absurd h9 (by decide), fun _ => ?_⟩
          refine hcl _ _ _ _ (w_X8_refuse 4 (by decide) (by decide) ?_)
          refine hK _ _ ?_
          clear hcl hax
          clear cl ax
          refine mCall_k (fun K hK => ?_)
          refine mCall_sem MX9_safe rfl rfl (Or.inl ⟨rfl, rfl, rfl⟩) rfl (mSem_wp MX9_safe rfl aX9_safe 300 [] (fun cl ax hcl hax => ?_))
          first | refine hcl _ _ _ _ (w_X9 (fun c1 c2 => absurd (And.intro c1 c2) (by assumption)) (fun _ => ?_)) | refine hcl _ _ _ _ (w_X9 (fun _ _ => ?_) (fun c0 => absurd (And.intro (by assumption) (by assumption)) c0))
          refine ⟨fun h9 => absurd h9 (by decide), fun _ => ?_⟩
          first | refine hcl _ _ _ _ (w_X9_isLane (fun c1 c2 => absurd (And.intro c1 c2) (by assumption)) (fun _ => ?_)) | refine hcl _ _ _ _ (w_X9_isLane (fun _ _ => ?_) (fun c0 => absurd (And.intro (by assumption) (by assumption)) c0))
          refine ⟨fun h9 => absurd h9 (by decide), fun _ => ?_⟩
          first | refine hcl _ _ _ _ (w_X9 (fun c1 c2 => absurd (And.intro c1 c2) (by assumption)) (fun _ => ?_)) | refine hcl _ _ _ _ (w_X9 (fun _ _ => ?_) (fun c0 => absurd (And.intro (by assumption) (by assumption)) c0))
          refine ⟨fun _ => ?_, fun h9 => absurd h9 (by decide)⟩
          first | refine hcl _ _ _ _ (w_X9_isTooLate (y := A 75 1) rfl (fun c1 => absurd c1 (by assumption)) (fun _ => ?_)) | refine hcl _ _ _ _ (w_X9_isTooLate (y := A 75 1) rfl (fun _ => ?_) (fun c0 => absurd (by assumption) c0))
          refine ⟨fun h9 => absurd h9 (by decide), fun _ => ?_⟩
          exact hcl _ _ _ _ (w_X9_finding 4 (by decide) (by decide) (hK _ _ (rEnd_cnt h (by decide))))
        · refine ⟨fun _ => ?_, fun h9 => absurd h9 (by decide)⟩
          obtain ⟨m, hm, rfl⟩ := ix_le 60 (by grind) d2 rfl
          refine hax _ _ _ _ (lp_X8_safe (e := A 2 0 - 1) (by omega) b1 b2 (fun j => SD (A 2 1) (A 3) v u 5 (A 2 2 + nI j)) (fun j => rfl) (fun c2 => ?_) (fun c2 => ?_) 0 (by omega))
          · rw [he] at c2
            refine hK _ _ ?_
            clear hcl hax
            clear cl ax
            refine mCall_k (fun K hK => ?_)
            refine mCall_sem MX9_safe rfl rfl (Or.inl ⟨rfl, rfl, rfl⟩) rfl (mSem_wp MX9_safe rfl aX9_safe 300 [61] (fun cl ax hcl hax => ?_))
            first | refine hcl _ _ _ _ (w_X9 (fun c1 c2 => absurd (And.intro c1 c2) (by assumption)) (fun _ => ?_)) | refine hcl _ _ _ _ (w_X9 (fun _ _ => ?_) (fun c0 => absurd (And.intro (by assumption) (by assumption)) c0))
            refine ⟨fun h9 => absurd h9 (by decide), fun _ => ?_⟩
            first | refine hcl _ _ _ _ (w_X9_isLane (fun c1 c2 => absurd (And.intro c1 c2) (by assumption)) (fun _ => ?_)) | refine hcl _ _ _ _ (w_X9_isLane (fun _ _ => ?_) (fun c0 => absurd (And.intro (by assumption) (by assumption)) c0))
            refine ⟨fun h9 => absurd h9 (by decide), fun _ => ?_⟩
            first | refine hcl _ _ _ _ (w_X9 (fun c1 c2 => absurd (And.intro c1 c2) (by assumption)) (fun _ => ?_)) | refine hcl _ _ _ _ (w_X9 (fun _ _ => ?_) (fun c0 => absurd (And.intro (by assumption) (by assumption)) c0))
            refine ⟨fun _ => ?_, fun h9 => absurd h9 (by decide)⟩
            first | refine hcl _ _ _ _ (w_X9_isTooLate (y := A 75 1) rfl (fun c1 => absurd c1 (by assumption)) (fun _ => ?_)) | refine hcl _ _ _ _ (w_X9_isTooLate (y := A 75 1) rfl (fun _ => ?_) (fun c0 => absurd (by assumption) c0))
            refine ⟨fun _ => ?_, fun h9 => absurd h9 (by decide)⟩
            refine ⟨vl 0 rfl rfl, ?_⟩
            refine hax _ _ _ _ (lp_X9_safe (A := cnt1 A 3) (e := A 75 0 - 1) (by omega) b1 b2 (fun j => SD (A 2 1) (A 3) v u 5 (A 2 2 + nI j)) (fun j => by rw [hy]; exact (SD_ice hice b1 b2).symm) (fun _ => ?_) (fun c3 => absurd c2 c3) 0 (by omega))
            exact hK _ _ (rEnd_cnt h (by decide))
          · rw [he] at c2 ⊢
            refine hK _ _ ?_
            clear hcl hax
            clear cl ax
            refine mCall_k (fun K hK => ?_)
            refine mCall_sem MX9_safe rfl rfl (Or.inl ⟨rfl, rfl, rfl⟩) rfl (mSem_wp MX9_safe rfl aX9_safe 300 [61] (fun cl ax hcl hax => ?_))
            first | refine hcl _ _ _ _ (w_X9 (fun c1 c2 => absurd (And.intro c1 c2) (by assumption)) (fun _ => ?_)) | refine hcl _ _ _ _ (w_X9 (fun _ _ => ?_) (fun c0 => absurd (And.intro (by assumption) (by assumption)) c0))
            refine ⟨fun h9 => absurd h9 (by decide), fun _ => ?_⟩
            first | refine hcl _ _ _ _ (w_X9_isLane (fun c1 c2 => absurd (And.intro c1 c2) (by assumption)) (fun _ => ?_)) | refine hcl _ _ _ _ (w_X9_isLane (fun _ _ => ?_) (fun c0 => absurd (And.intro (by assumption) (by assumption)) c0))
            refine ⟨fun h9 => absurd h9 (by decide), fun _ => ?_⟩
            first | refine hcl _ _ _ _ (w_X9 (fun c1 c2 => absurd (And.intro c1 c2) (by assumption)) (fun _ => ?_)) | refine hcl _ _ _ _ (w_X9 (fun _ _ => ?_) (fun c0 => absurd (And.intro (by assumption) (by assumption)) c0))
            refine ⟨fun _ => ?_, fun h9 => absurd h9 (by decide)⟩
            first | refine hcl _ _ _ _ (w_X9_isTooLate (y := A 75 1) rfl (fun c1 => absurd c1 (by assumption)) (fun _ => ?_)) | refine hcl _ _ _ _ (w_X9_isTooLate (y := A 75 1) rfl (fun _ => ?_) (fun c0 => absurd (by assumption) c0))
            refine ⟨fun _ => ?_, fun h9 => absurd h9 (by decide)⟩
            refine ⟨vl 0 rfl rfl, ?_⟩
            refine hax _ _ _ _ (lp_X9_safe (e := A 75 0 - 1) (by omega) b1 b2 (fun j => SD (A 2 1) (A 3) v u 5 (A 2 2 + nI j)) (fun j => by rw [hy]; exact (SD_ice hice b1 b2).symm) (fun c3 => absurd c3 c2) (fun _ => ?_) 0 (by omega))
            exact hK _ _ ⟨rfl, rfl, h⟩
      · refine ⟨fun h9 => absurd h9 (by decide), fun _ => ?_⟩
        refine hcl _ _ _ _ (w_X8_refuse 0 (by decide) (by decide) ?_)
        refine hK _ _ ?_
        clear hcl hax
        clear cl ax
        refine mCall_k (fun K hK => ?_)
        refine mCall_sem MX9_safe rfl rfl (Or.inl ⟨rfl, rfl, rfl⟩) rfl (mSem_wp MX9_safe rfl aX9_safe 300 [] (fun cl ax hcl hax => ?_))
        repeat (first | exact hcl _ _ _ _ (w_X9_finding 0 (by decide) (by decide) (hK _ _ (rEnd_cnt h (by decide)))) | refine ⟨fun _ => ?_, fun h9 => absurd h9 (by decide)⟩ | refine ⟨fun h9 => absurd h9 (by decide), fun _ => ?_⟩ | (first | refine hcl _ _ _ _ (w_X9 (fun c1 c2 => absurd (And.intro c1 c2) (by assumption)) (fun _ => ?_)) | refine hcl _ _ _ _ (w_X9 (fun _ _ => ?_) (fun c0 => absurd (And.intro (by assumption) (by assumption)) c0))) | (first | refine hcl _ _ _ _ (w_X9_isLane (fun c1 c2 => absurd (And.intro c1 c2) (by assumption)) (fun _ => ?_)) | refine hcl _ _ _ _ (w_X9_isLane (fun _ _ => ?_) (fun c0 => absurd (And.intro (by assumption) (by assumption)) c0))))
    · refine ⟨fun _ => ?_, fun h9 => absurd h9 (by decide)⟩
      refine hcl _ _ _ _ (w_X8_refuse 0 (by decide) (by decide) ?_)
      refine hK _ _ ?_
      clear hcl hax
      clear cl ax
      refine mCall_k (fun K hK => ?_)
      refine mCall_sem MX9_safe rfl rfl (Or.inl ⟨rfl, rfl, rfl⟩) rfl (mSem_wp MX9_safe rfl aX9_safe 300 [] (fun cl ax hcl hax => ?_))
      repeat (first | exact hcl _ _ _ _ (w_X9_finding 0 (by decide) (by decide) (hK _ _ (rEnd_cnt h (by decide)))) | refine ⟨fun _ => ?_, fun h9 => absurd h9 (by decide)⟩ | refine ⟨fun h9 => absurd h9 (by decide), fun _ => ?_⟩ | (first | refine hcl _ _ _ _ (w_X9 (fun c1 c2 => absurd (And.intro c1 c2) (by assumption)) (fun _ => ?_)) | refine hcl _ _ _ _ (w_X9 (fun _ _ => ?_) (fun c0 => absurd (And.intro (by assumption) (by assumption)) c0))) | (first | refine hcl _ _ _ _ (w_X9_isLane (fun c1 c2 => absurd (And.intro c1 c2) (by assumption)) (fun _ => ?_)) | refine hcl _ _ _ _ (w_X9_isLane (fun _ _ => ?_) (fun c0 => absurd (And.intro (by assumption) (by assumption)) c0))))
  · refine ⟨fun _ => ?_, fun h9 => absurd h9 (by decide)⟩
    refine hcl _ _ _ _ (w_X8_refuse 0 (by decide) (by decide) ?_)
    refine hK _ _ ?_
    clear hcl hax
    clear cl ax
    refine mCall_k (fun K hK => ?_)
    refine mCall_sem MX9_safe rfl rfl (Or.inl ⟨rfl, rfl, rfl⟩) rfl (mSem_wp MX9_safe rfl aX9_safe 300 [] (fun cl ax hcl hax => ?_))
    repeat (first | exact hcl _ _ _ _ (w_X9_finding 0 (by decide) (by decide) (hK _ _ (rEnd_cnt h (by decide)))) | refine ⟨fun _ => ?_, fun h9 => absurd h9 (by decide)⟩ | refine ⟨fun h9 => absurd h9 (by decide), fun _ => ?_⟩ | (first | refine hcl _ _ _ _ (w_X9 (fun c1 c2 => absurd (And.intro c1 c2) (by assumption)) (fun _ => ?_)) | refine hcl _ _ _ _ (w_X9 (fun _ _ => ?_) (fun c0 => absurd (And.intro (by assumption) (by assumption)) c0))) | (first | refine hcl _ _ _ _ (w_X9_isLane (fun c1 c2 => absurd (And.intro c1 c2) (by assumption)) (fun _ => ?_)) | refine hcl _ _ _ _ (w_X9_isLane (fun _ _ => ?_) (fun c0 => absurd (And.intro (by assumption) (by assumption)) c0))))
theorem lp_X8_lost {E : ME} {d : Nat} {A : Nat → Nat → Int32} {B : Nat → Nat → Int64} {K : MK} {ln e : Int32} (l0 : 0 ≤ ln) (l8 : ln ≤ 8) (s : Nat → Int32) (hs : ∀ j, s j = (SD (A 2 1) (A 3) 5 ln 0 (A 2 2 + nI (j + 1) - 1))) (k0 : (∀ i, i < 400 → sa s e (i + 1) < A 2 0) → K (some (.int (-1000000004))) (SH, cnt1 A 3, B)) (k1 : ∀ j, j < 400 → (∀ i, i < j → sa s e (i + 1) < A 2 0) → ¬ sa s e (j + 1) < A 2 0 → K (some (.int (nI (j + 1)))) (SH, A, B)) : ∀ j, (j ≤ 400 ∧ ∀ i, i < j → sa s e (i + 1) < A 2 0) → mSem E (d + 2 + 1) nX8_lost (SH, A, B) 0 0 K 44 [some (.ref 0), some (.int ln), some (.int e), some (.int (sa s e j)), some (.int (nI (j + 1)))] [] (SH, A, B) := by
  refine mSem_loop MX8_lost rfl aX8_lost 300 [44] (fun j => [some (.ref 0), some (.int ln), some (.int e), some (.int (sa s e j)), some (.int (nI (j + 1)))]) (fun j => (SH, A, B)) (fun j => j ≤ 400 ∧ ∀ i, i < j → sa s e (i + 1) < A 2 0) (fun j => 400 - j) ?_
  intro j hj cl ax hcl hax hlp
  refine ⟨fun (c : nI 400 < nI (j + 1)) => ?_, fun (c : ¬ nI 400 < nI (j + 1)) => ?_⟩
  · rw [nI_ltI (by omega) (by omega)] at c
    have : j = 400 := by omega
    subst this
    refine hcl _ _ _ _ (w_X8_refuse 3 (by decide) (by decide) ?_)
    exact k0 hj.2
  · rw [nI_ltI (by omega) (by omega)] at c
    first | refine ⟨vl 1 rfl rfl, ?_⟩ | skip
    refine hcl _ _ _ _ (w_strideL l0 l8 ?_)
    have e3 : sa s e j + (SD (A 2 1) (A 3) 5 ln 0 (A 2 2 + nI (j + 1) - 1)) = sa s e (j + 1) := by rw [sa, hs j]
    have this : sa s e (j + 1) < A 2 0 → ax 44 [some (.ref 0), some (.int ln), some (.int e), some (.int (sa s e (j + 1))), some (.int (nI (j + 1 + 1)))] [] (SH, A, B) := fun c2 => hlp (j + 1) ⟨by omega, fun i hi => by
        by_cases e : i = j
        · subst e
          exact c2
        · exact hj.2 i (by omega)⟩ (by omega)
    rw [← nI_1] at this
    have k2 := k1 j (by omega) hj.2
    rw [← e3] at this k2
    first | refine ⟨vl 0 rfl rfl, ?_⟩ | skip
    refine ⟨fun c2 => ?_, fun c2 => ?_⟩
    · exact this c2
    · exact k2 c2
theorem lp_X9_lost {E : ME} {d : Nat} {A : Nat → Nat → Int32} {B : Nat → Nat → Int64} {K : MK} {ln e : Int32} (l0 : 0 ≤ ln) (l8 : ln ≤ 8) (s : Nat → Int32) (hs : ∀ j, s j = (SD (A 75 2) (fun q => A 75 (6 + q)) 5 ln 0 (A 75 1 + nI (j + 1) - 1))) (k0 : (∀ i, i < 400 → sa s e (i + 1) < A 75 0) → K (some (.int (-1000000004))) (SH, cnt2 A 3, B)) (k1 : ∀ j, j < 400 → (∀ i, i < j → sa s e (i + 1) < A 75 0) → ¬ sa s e (j + 1) < A 75 0 → K (some (.int (nI (j + 1)))) (SH, A, B)) : ∀ j, (j ≤ 400 ∧ ∀ i, i < j → sa s e (i + 1) < A 75 0) → mSem E (d + 4 + 1) nX9_lost (SH, A, B) 0 0 K 52 [some (.ref 74), some (.int ln), some (.int e), some (.int (sa s e j)), some (.int (nI (j + 1)))] [] (SH, A, B) := by
  refine mSem_loop MX9_lost rfl aX9_lost 300 [52] (fun j => [some (.ref 74), some (.int ln), some (.int e), some (.int (sa s e j)), some (.int (nI (j + 1)))]) (fun j => (SH, A, B)) (fun j => j ≤ 400 ∧ ∀ i, i < j → sa s e (i + 1) < A 75 0) (fun j => 400 - j) ?_
  intro j hj cl ax hcl hax hlp
  refine ⟨fun (c : nI 400 < nI (j + 1)) => ?_, fun (c : ¬ nI 400 < nI (j + 1)) => ?_⟩
  · rw [nI_ltI (by omega) (by omega)] at c
    have : j = 400 := by omega
    subst this
    refine hcl _ _ _ _ (w_X9_finding 3 (by decide) (by decide) ?_)
    exact k0 hj.2
  · rw [nI_ltI (by omega) (by omega)] at c
    first | refine ⟨vl 1 rfl rfl, ?_⟩ | skip
    refine hcl _ _ _ _ (w_stepOfL l0 l8 ?_)
    have e3 : sa s e j + (SD (A 75 2) (fun q => A 75 (6 + q)) 5 ln 0 (A 75 1 + nI (j + 1) - 1)) = sa s e (j + 1) := by rw [sa, hs j]
    have this : sa s e (j + 1) < A 75 0 → ax 52 [some (.ref 74), some (.int ln), some (.int e), some (.int (sa s e (j + 1))), some (.int (nI (j + 1 + 1)))] [] (SH, A, B) := fun c2 => hlp (j + 1) ⟨by omega, fun i hi => by
        by_cases e : i = j
        · subst e
          exact c2
        · exact hj.2 i (by omega)⟩ (by omega)
    rw [← nI_1] at this
    have k2 := k1 j (by omega) hj.2
    rw [← e3] at this k2
    first | refine ⟨vl 0 rfl rfl, ?_⟩ | skip
    refine ⟨fun c2 => ?_, fun c2 => ?_⟩
    · exact this c2
    · exact k2 c2
theorem op_lost {E : ME} {v u : Int32} {A : Nat → Nat → Int32} {B : Nat → Nat → Int64} (h : rAll A B) : rOp E nX8_lost nX9_lost [.int v, .int u] A B := by
  have hice := h.1.1
  have hy : A 2 2 = A 75 1 := hice.1.2.2
  have he : A 2 0 = A 75 0 := hice.1.1
  refine rOp_of (fun K hK => ?_)
  refine mCall_sem MX8_lost rfl rfl (Or.inl ⟨rfl, rfl, rfl⟩) rfl (mSem_wp MX8_lost rfl aX8_lost 300 [44] (fun cl ax hcl hax => ?_))
  refine hcl _ _ _ _ (w_X8_isLane (fun b1 b2 => ?_) (fun b0 => ?_))
  · refine ⟨fun h9 => absurd h9 (by decide), fun _ => ?_⟩
    refine hcl _ _ _ _ (w_X8_isOnIce (n := A 75 0) he (fun d1 d2 => ?_) (fun d0 => ?_))
    · refine ⟨fun _ => ?_, fun h9 => absurd h9 (by decide)⟩
      refine hcl _ _ _ _ (w_X8_isPast (y := A 75 1) hy (fun c => ?_) (fun c => ?_))
      · refine ⟨fun h9 => absurd h9 (by decide), fun _ => ?_⟩
        refine hcl _ _ _ _ (w_X8_refuse 4 (by decide) (by decide) ?_)
        refine hK _ _ ?_
        clear hcl hax
        clear cl ax
        refine mCall_k (fun K hK => ?_)
        refine mCall_sem MX9_lost rfl rfl (Or.inl ⟨rfl, rfl, rfl⟩) rfl (mSem_wp MX9_lost rfl aX9_lost 300 [] (fun cl ax hcl hax => ?_))
        refine hcl _ _ _ _ (w_X9_isLane (fun _ _ => ?_) (fun c0 => absurd (And.intro b1 b2) c0))
        refine ⟨fun h9 => absurd h9 (by decide), fun _ => ?_⟩
        refine ⟨vl 0 rfl rfl, ?_⟩
        refine hcl _ _ _ _ (w_X9 (fun _ _ => ?_) (fun c0 => absurd (And.intro d1 d2) c0))
        refine ⟨fun _ => ?_, fun h9 => absurd h9 (by decide)⟩
        refine hcl _ _ _ _ (w_X9_isTooLate (y := A 75 1) rfl (fun _ => ?_) (fun c0 => absurd c c0))
        refine ⟨fun h9 => absurd h9 (by decide), fun _ => ?_⟩
        exact hcl _ _ _ _ (w_X9_finding 4 (by decide) (by decide) (hK _ _ (rEnd_cnt h (by decide))))
      · refine ⟨fun _ => ?_, fun h9 => absurd h9 (by decide)⟩
        refine hax _ _ _ _ (lp_X8_lost (e := u) b1 b2 (fun j => SD (A 2 1) (A 3) 5 v 0 (A 2 2 + nI (j + 1) - 1)) (fun j => rfl) (fun c2 => ?_) (fun j j1 j2 j3 => ?_) 0 ⟨by omega, fun i hi => by omega⟩)
        · rw [he] at c2
          refine hK _ _ ?_
          clear hcl hax
          clear cl ax
          refine mCall_k (fun K hK => ?_)
          refine mCall_sem MX9_lost rfl rfl (Or.inl ⟨rfl, rfl, rfl⟩) rfl (mSem_wp MX9_lost rfl aX9_lost 300 [52] (fun cl ax hcl hax => ?_))
          refine hcl _ _ _ _ (w_X9_isLane (fun _ _ => ?_) (fun c0 => absurd (And.intro b1 b2) c0))
          refine ⟨fun h9 => absurd h9 (by decide), fun _ => ?_⟩
          refine ⟨vl 0 rfl rfl, ?_⟩
          refine hcl _ _ _ _ (w_X9 (fun _ _ => ?_) (fun c0 => absurd (And.intro d1 d2) c0))
          refine ⟨fun _ => ?_, fun h9 => absurd h9 (by decide)⟩
          refine hcl _ _ _ _ (w_X9_isTooLate (y := A 75 1) rfl (fun c1 => absurd c1 c) (fun _ => ?_))
          refine ⟨fun _ => ?_, fun h9 => absurd h9 (by decide)⟩
          refine hax _ _ _ _ (lp_X9_lost (A := cnt1 A 3) (e := u) b1 b2 (fun j => SD (A 2 1) (A 3) 5 v 0 (A 2 2 + nI (j + 1) - 1)) (fun j => by rw [hy]; exact (SD_ice hice b1 b2).symm) (fun _ => ?_) (fun i i1 i2 i3 => absurd (c2 i i1) i3) 0 ⟨by omega, fun i hi => by omega⟩)
          exact hK _ _ (rEnd_cnt h (by decide))
        · rw [he] at j2 j3
          refine hK _ _ ?_
          clear hcl hax
          clear cl ax
          refine mCall_k (fun K hK => ?_)
          refine mCall_sem MX9_lost rfl rfl (Or.inl ⟨rfl, rfl, rfl⟩) rfl (mSem_wp MX9_lost rfl aX9_lost 300 [52] (fun cl ax hcl hax => ?_))
          refine hcl _ _ _ _ (w_X9_isLane (fun _ _ => ?_) (fun c0 => absurd (And.intro b1 b2) c0))
          refine ⟨fun h9 => absurd h9 (by decide), fun _ => ?_⟩
          refine ⟨vl 0 rfl rfl, ?_⟩
          refine hcl _ _ _ _ (w_X9 (fun _ _ => ?_) (fun c0 => absurd (And.intro d1 d2) c0))
          refine ⟨fun _ => ?_, fun h9 => absurd h9 (by decide)⟩
          refine hcl _ _ _ _ (w_X9_isTooLate (y := A 75 1) rfl (fun c1 => absurd c1 c) (fun _ => ?_))
          refine ⟨fun _ => ?_, fun h9 => absurd h9 (by decide)⟩
          refine hax _ _ _ _ (lp_X9_lost (e := u) b1 b2 (fun j => SD (A 2 1) (A 3) 5 v 0 (A 2 2 + nI (j + 1) - 1)) (fun j => by rw [hy]; exact (SD_ice hice b1 b2).symm) (fun i2 => absurd (i2 j j1) j3) (fun i i1 i2 i3 => ?_) 0 ⟨by omega, fun i hi => by omega⟩)
          have : i = j := by
            rcases Nat.lt_trichotomy i j with q | q | q
            · exact absurd (j2 i q) i3
            · exact q
            · exact absurd (i2 j q) j3
          subst this
          exact hK _ _ ⟨rfl, rfl, h⟩
    · refine ⟨fun h9 => absurd h9 (by decide), fun _ => ?_⟩
      refine hcl _ _ _ _ (w_X8_refuse 0 (by decide) (by decide) ?_)
      refine hK _ _ ?_
      clear hcl hax
      clear cl ax
      refine mCall_k (fun K hK => ?_)
      refine mCall_sem MX9_lost rfl rfl (Or.inl ⟨rfl, rfl, rfl⟩) rfl (mSem_wp MX9_lost rfl aX9_lost 300 [] (fun cl ax hcl hax => ?_))
      refine hcl _ _ _ _ (w_X9_isLane (fun _ _ => ?_) (fun c0 => absurd (And.intro b1 b2) c0))
      refine ⟨fun h9 => absurd h9 (by decide), fun _ => ?_⟩
      refine ⟨vl 0 rfl rfl, ?_⟩
      refine hcl _ _ _ _ (w_X9 (fun c1 c2 => absurd (And.intro c1 c2) d0) (fun _ => ?_))
      refine ⟨fun h9 => absurd h9 (by decide), fun _ => ?_⟩
      exact hcl _ _ _ _ (w_X9_finding 0 (by decide) (by decide) (hK _ _ (rEnd_cnt h (by decide))))
  · refine ⟨fun _ => ?_, fun h9 => absurd h9 (by decide)⟩
    refine hcl _ _ _ _ (w_X8_refuse 0 (by decide) (by decide) ?_)
    refine hK _ _ ?_
    clear hcl hax
    clear cl ax
    refine mCall_k (fun K hK => ?_)
    refine mCall_sem MX9_lost rfl rfl (Or.inl ⟨rfl, rfl, rfl⟩) rfl (mSem_wp MX9_lost rfl aX9_lost 300 [] (fun cl ax hcl hax => ?_))
    repeat (first | exact hcl _ _ _ _ (w_X9_finding 0 (by decide) (by decide) (hK _ _ (rEnd_cnt h (by decide)))) | refine ⟨fun _ => ?_, fun h9 => absurd h9 (by decide)⟩ | refine ⟨fun h9 => absurd h9 (by decide), fun _ => ?_⟩ | (first | refine hcl _ _ _ _ (w_X9 (fun c1 c2 => absurd (And.intro c1 c2) (by assumption)) (fun _ => ?_)) | refine hcl _ _ _ _ (w_X9 (fun _ _ => ?_) (fun c0 => absurd (And.intro (by assumption) (by assumption)) c0))) | (first | refine hcl _ _ _ _ (w_X9_isLane (fun c1 c2 => absurd (And.intro c1 c2) (by assumption)) (fun _ => ?_)) | refine hcl _ _ _ _ (w_X9_isLane (fun _ _ => ?_) (fun c0 => absurd (And.intro (by assumption) (by assumption)) c0))))
