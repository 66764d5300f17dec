/-! over, till -/
theorem lp_X8_over {E : ME} {d : Nat} {A : Nat → Nat → Int32} {B : Nat → Nat → Int64} {K : MK} {k t j : Nat} {R : Nat → Int32} (hj : j < k) (hm : hM k t (A 75)) (h : rNow A) (k1 : ∀ n, n < 200 → (∀ m, m ≤ n → (TR (A 75) j m).2 = 0) → ¬ (TR (A 75) j (n + 1)).2 = 0 → ∀ v, K (some (.int (nI (n + 1)))) (SH, LA A R v, B)) (k0 : (∀ m, m ≤ 200 → (TR (A 75) j m).2 = 0) → ∀ v, K (some (.int (-1000000004))) (SH, cnt1 (LA A R v) 3, B)) : ∀ v : Nat × (Nat → Int32) × (Nat → Int32) × (Nat → Int32) × (Nat → Int32) × (Nat → Int32), (v.1 ≤ 200 ∧ LI k v.1 ((1 : Int32) <<< (nI j &&& 31)) A R v.2 ∧ ∀ m, m ≤ v.1 → (TR (A 75) j m).2 = 0) → mSem E (d + 5) nX8_over (SH, A, B) 0 0 K 63 [some (.ref 0), some (.int (nI j)), some (.int (nI (v.1 + 1)))] [] (SH, LA A R v.2, B) := by
  refine mSem_loop (σ := Nat × (Nat → Int32) × (Nat → Int32) × (Nat → Int32) × (Nat → Int32) × (Nat → Int32)) (h0 := (SH, A, B)) MX8_over rfl aX8_over 300 [63] (fun v => [some (.ref 0), some (.int (nI j)), some (.int (nI (v.1 + 1)))]) (fun v => (SH, LA A R v.2, B)) (fun v => v.1 ≤ 200 ∧ LI k v.1 ((1 : Int32) <<< (nI j &&& 31)) A R v.2 ∧ ∀ m, m ≤ v.1 → (TR (A 75) j m).2 = 0) (fun v => 200 - v.1) ?_
  rintro ⟨n, v⟩ ⟨hn, hY, hg⟩ cl ax hcl hax hlp
  have hn : n ≤ 200 := hn
  have hY : LI k n ((1 : Int32) <<< (nI j &&& 31)) A R v := hY
  have hg : ∀ m, m ≤ n → (TR (A 75) j m).2 = 0 := hg
  have k12 := hm.1
  have e8 : (nI j).toNatClampNeg = j := nI_clamp (by omega)
  refine ⟨fun (c0 : nI 200 < nI (n + 1)) => ?_, fun (c0 : ¬ nI 200 < nI (n + 1)) => ?_⟩
  · rw [nI_ltI (by omega) (by omega)] at c0
    have : n = 200 := by omega
    subst this
    refine hcl _ _ _ _ (w_X8_refuse (A := LA A R v) 3 (by decide) (by decide) ?_)
    exact k0 hg v
  · rw [nI_ltI (by omega) (by omega)] at c0
    refine hcl _ _ _ _ (w_later hm h hY (show A 2 2 + nI (n + 1) - 1 = _ by rw [h.1.1.2.2, ← nI_1]; clear hcl hax hlp k1 k0; grind) (fun c v2 h2 => ?_))
    have q : v2.2.2.2.2 j = (TR (A 75) j (n + 1)).2 := congrArg Prod.snd (h2.2.2 j hj (mb1 j (by omega)))
    refine ⟨vp_in_nI (N := 12) (by omega) (by decide), ?_⟩
    refine ⟨fun (c1 : v2.2.2.2.2 (nI j).toNatClampNeg = 0) => ?_, fun (c1 : ¬ v2.2.2.2.2 (nI j).toNatClampNeg = 0) => ?_⟩
    · rw [e8, q] at c1
      have this : ax 63 [some (.ref 0), some (.int (nI j)), some (.int (nI (n + 1 + 1)))] [] (SH, LA A R v2, B) := hlp (n + 1, v2) ⟨by show n + 1 ≤ 200; omega, h2, fun m hm => by
        have hm : m ≤ n + 1 := hm
        by_cases e : m = n + 1
        · rw [e]; exact c1
        · exact hg m (by omega)⟩ (by show 200 - (n + 1) < 200 - n; omega)
      rw [← nI_1 (n + 1)] at this
      exact this
    · rw [e8, q] at c1
      exact k1 n (by omega) hg c1 v2
theorem lp_X9_over {E : ME} {d : Nat} {A A0 : Nat → Nat → Int32} {B : Nat → Nat → Int64} {K : MK} {k t j : Nat} {N0 : Nat → Int32} (hj : j < k) (hm : hM k t N0) (k1 : ∀ n, n ≤ 200 → (∀ m, m < n → ¬ (TR N0 j m).2 = 1) → (TR N0 j n).2 = 1 → ∀ N R2, (∀ q, q < 135 → R2 q = A 77 q) → K (some (.int (nI n))) (SH, va_up (va_up A 75 N) 75 R2, B)) (k0 : (∀ m, m ≤ 200 → ¬ (TR N0 j m).2 = 1) → ∀ N R2, (∀ q, q < 135 → R2 q = A 77 q) → K (some (.int (-1000000004))) (SH, cnt2 (va_up (va_up A 75 N) 75 R2) 3, B)) : ∀ v : Nat × (Nat → Int32), (v.1 ≤ 200 ∧ YR k t v.1 N0 v.2 ∧ ∀ m, m < v.1 → ¬ (TR N0 j m).2 = 1) → mSem E (d + 8) nX9_over (SH, A0, B) 0 0 K 53 [some (.ref 74), some (.int (nI j)), some (.int (nI v.1)), none] [] (SH, va_up A 75 v.2, B) := by
  refine mSem_loop (σ := Nat × (Nat → Int32)) (h0 := (SH, A0, B)) MX9_over rfl aX9_over 300 [53] (fun v => [some (.ref 74), some (.int (nI j)), some (.int (nI v.1)), none]) (fun v => (SH, va_up A 75 v.2, B)) (fun v => v.1 ≤ 200 ∧ YR k t v.1 N0 v.2 ∧ ∀ m, m < v.1 → ¬ (TR N0 j m).2 = 1) (fun v => 200 - v.1) ?_
  rintro ⟨n, N⟩ ⟨hn, hY, hg⟩ cl ax hcl hax hlp
  have hn : n ≤ 200 := hn
  have hY : YR k t n N0 N := hY
  have hg : ∀ m, m < n → ¬ (TR N0 j m).2 = 1 := hg
  have k12 := hm.1
  have q : N (19 + 5 * j) = (TR N0 j n).2 := congrArg Prod.snd (hY.2.2.1 j hj)
  have n0 : 0 ≤ nI n := nI_pos' (by omega)
  refine ⟨fun (c0 : nI 200 ≤ nI n) => ?_, fun (c0 : ¬ nI 200 ≤ nI n) => ?_⟩
  · rw [nI_leI (by omega) (by omega)] at c0
    have : n = 200 := by omega
    subst this
    refine hcl _ _ _ _ (w_isGone j (by omega) (fun (c1 : N (19 + 5 * j) = 1) => ?_) (fun (c1 : ¬ N (19 + 5 * j) = 1) => ?_))
    · refine ⟨fun h9 => absurd h9 (by decide), fun _ => ?_⟩
      refine hcl _ _ _ _ (w_putBack (A := va_up A 75 N) (fun R2 h2 => ?_))
      refine ⟨fun _ => ?_, fun c3 => absurd n0 c3⟩
      exact k1 200 (by omega) hg (q ▸ c1) N R2 h2
    · refine ⟨fun _ => ?_, fun h9 => absurd h9 (by decide)⟩
      refine hcl _ _ _ _ (w_putBack (A := va_up A 75 N) (fun R2 h2 => ?_))
      refine ⟨fun h9 => absurd h9 (by decide), fun _ => ?_⟩
      refine hcl _ _ _ _ (w_X9_finding (A := va_up (va_up A 75 N) 75 R2) 3 (by decide) (by decide) ?_)
      refine k0 (fun m hm => ?_) N R2 h2
      by_cases e : m = 200
      · rw [e, ← q]; exact c1
      · exact hg m (by omega)
  · rw [nI_leI (by omega) (by omega)] at c0
    refine hcl _ _ _ _ (w_isGone j (by omega) (fun (c1 : N (19 + 5 * j) = 1) => ?_) (fun (c1 : ¬ N (19 + 5 * j) = 1) => ?_))
    · refine ⟨fun _ => ?_, fun h9 => absurd h9 (by decide)⟩
      refine hcl _ _ _ _ (w_isGone j (by omega) (fun _ => ?_) (fun c2 => absurd c1 c2))
      refine ⟨fun h9 => absurd h9 (by decide), fun _ => ?_⟩
      refine hcl _ _ _ _ (w_putBack (A := va_up A 75 N) (fun R2 h2 => ?_))
      refine ⟨fun _ => ?_, fun c3 => absurd n0 c3⟩
      exact k1 n (by omega) hg (q ▸ c1) N R2 h2
    · refine ⟨fun h9 => absurd h9 (by decide), fun _ => ?_⟩
      refine hcl _ _ _ _ (w_yearsGo (n := 1) (A := va_up A 75 N) (by omega) (hM_YR hm hY) (fun N2 h2 => ?_))
      have this : ax 53 [some (.ref 74), some (.int (nI j)), some (.int (nI (n + 1))), none] [] (SH, va_up A 75 N2, B) := hlp (n + 1, N2) ⟨by show n + 1 ≤ 200; omega, YR_step hm hY h2, fun m hm => by
        have hm : m < n + 1 := hm
        by_cases e : m = n
        · rw [e, ← q]; exact c1
        · exact hg m (by omega)⟩ (by show 200 - (n + 1) < 200 - n; omega)
      rw [← nI_1, ← up_up (F := N)] at this
      exact this
theorem op_over {E : ME} {v : Int32} {A : Nat → Nat → Int32} {B : Nat → Nat → Int64} (h : rAll A B) : rOp E nX8_over nX9_over [.int v] A B := by
  obtain ⟨k, t, hm, hx, hx2⟩ := hM_of h.1
  have hy : A 2 2 = A 75 1 := h.1.1.1.2.2
  have k12 := hm.1
  have hh := rH h.1 hm.2.2.1 hm.1
  refine rOp_of (fun K hK => ?_)
  refine mCall_sem MX8_over rfl rfl (Or.inl ⟨rfl, rfl, rfl⟩) rfl (mSem_wp MX8_over rfl aX8_over 300 [63] (fun cl ax hcl hax => ?_))
  refine hcl _ _ _ _ (w_X8_isHouse hx (fun a1 a2 => ?_) (fun a0 => ?_))
  · refine ⟨fun _ => ?_, fun h9 => absurd h9 (by decide)⟩
    obtain ⟨j, hj, rfl⟩ := ho_ix k12 a1 a2
    have e8 : (nI j).toNatClampNeg = j := nI_clamp (by omega)
    have hv : vp_in (nI j) 12 := vp_in_nI (by omega) (by decide)
    have g01 := (hm.2.2.2.2.1 j hj).2
    have ge : A 9 j = A 75 (19 + 5 * j) := (hh j hj).1.2.2.2.2
    have tg := fun n => TR_gone (N := A 75) g01 n
    refine ⟨hv, ?_⟩
    refine ⟨fun (c : ¬ A 9 (nI j).toNatClampNeg = 0) => ?_, fun (c : A 9 (nI j).toNatClampNeg = 0) => ?_⟩
    · rw [e8, ge] at c
      have c1 : A 75 (19 + 5 * j) = 1 := g01.resolve_left c
      refine hcl _ _ _ _ (w_X8_refuse 4 (by decide) (by decide) ?_)
      refine hK _ _ ?_
      clear hcl hax
      clear cl ax
      refine mCall_k (fun K hK => ?_)
      refine mCall_sem MX9_over rfl rfl (Or.inl ⟨rfl, rfl, rfl⟩) rfl (mSem_wp MX9_over rfl aX9_over 300 [] (fun cl ax hcl hax => ?_))
      refine hcl _ _ _ _ (w_X9_isHouse (n := nI k) hm.2.2.1 (fun _ _ => ?_) (fun c0 => absurd (And.intro a1 a2) c0))
      refine ⟨fun _ => ?_, fun h9 => absurd h9 (by decide)⟩
      refine hcl _ _ _ _ (w_isGone j (by omega) (fun _ => ?_) (fun c2 => absurd c1 c2))
      refine ⟨fun _ => ?_, fun h9 => absurd h9 (by decide)⟩
      exact hcl _ _ _ _ (w_X9_finding 4 (by decide) (by decide) (hK _ _ (rEnd_cnt h (by decide))))
    · rw [e8, ge] at c
      have c1 : ¬ A 75 (19 + 5 * j) = 1 := by rw [c]; decide
      refine hcl _ _ _ _ (w_X8_isPast (y := A 75 1) hy (fun c2 => ?_) (fun c2 => ?_))
      · refine ⟨fun h9 => absurd h9 (by decide), fun _ => ?_⟩
        refine hcl _ _ _ _ (w_X8_refuse 4 (by decide) (by decide) ?_)
        refine hK _ _ ?_
        clear hcl hax
        clear cl ax
        refine mCall_k (fun K hK => ?_)
        refine mCall_sem MX9_over rfl rfl (Or.inl ⟨rfl, rfl, rfl⟩) rfl (mSem_wp MX9_over rfl aX9_over 300 [] (fun cl ax hcl hax => ?_))
        refine hcl _ _ _ _ (w_X9_isHouse (n := nI k) hm.2.2.1 (fun _ _ => ?_) (fun c0 => absurd (And.intro a1 a2) c0))
        refine ⟨fun _ => ?_, fun h9 => absurd h9 (by decide)⟩
        refine hcl _ _ _ _ (w_isGone j (by omega) (fun c3 => absurd c3 c1) (fun _ => ?_))
        refine ⟨fun h9 => absurd h9 (by decide), fun _ => ?_⟩
        refine hcl _ _ _ _ (w_X9_isTooLate (y := A 75 1) rfl (fun _ => ?_) (fun c0 => absurd c2 c0))
        refine ⟨fun h9 => absurd h9 (by decide), fun _ => ?_⟩
        exact hcl _ _ _ _ (w_X9_finding 4 (by decide) (by decide) (hK _ _ (rEnd_cnt h (by decide))))
      · refine ⟨fun _ => ?_, fun h9 => absurd h9 (by decide)⟩
        refine hcl _ _ _ _ (w_takeL hm h.1 hx (fun R w hw => ?_))
        refine hax _ _ _ _ (lp_X8_over hj hm h.1 (fun n n1 n2 n3 w2 => ?_) (fun n2 w2 => ?_) (0, w) ⟨by omega, hw _, fun m hm => by
          have hm : m ≤ 0 := hm
          have : m = 0 := by omega
          rw [this]; exact c⟩)
        · refine hK _ _ ?_
          clear hcl hax
          clear cl ax
          refine mCall_k (fun K hK => ?_)
          refine mCall_sem MX9_over rfl rfl (Or.inl ⟨rfl, rfl, rfl⟩) rfl (mSem_wp MX9_over rfl aX9_over 300 [53] (fun cl ax hcl hax => ?_))
          refine hcl _ _ _ _ (w_X9_isHouse (n := nI k) hm.2.2.1 (fun _ _ => ?_) (fun c0 => absurd (And.intro a1 a2) c0))
          refine ⟨fun _ => ?_, fun h9 => absurd h9 (by decide)⟩
          refine hcl _ _ _ _ (w_isGone j (by omega) (fun c3 => absurd c3 c1) (fun _ => ?_))
          refine ⟨fun h9 => absurd h9 (by decide), fun _ => ?_⟩
          refine hcl _ _ _ _ (w_X9_isTooLate (y := A 75 1) rfl (fun c0 => absurd c0 c2) (fun _ => ?_))
          refine ⟨fun _ => ?_, fun h9 => absurd h9 (by decide)⟩
          refine hcl _ _ _ _ (w_copy75_77 (A := LA A R w2) (fun R1 h1 => ?_))
          have e : va_up (va_up (LA A R w2) 77 R1) 75 (A 75) = va_up (LA A R w2) 77 R1 := by
            funext q
            unfold va_up
            split
            · rename_i c; rw [c]; rfl
            · rfl
          have this := lp_X9_over (E := E) (d := 4) (K := K) (A := va_up (LA A R w2) 77 R1) (A0 := LA A R w2) (B := B) hj hm (fun i i1 i2 i3 N R2 h2 => ?_) (fun i2 => absurd ((tg (n + 1)).resolve_left n3) (i2 (n + 1) (by omega))) (0, A 75) ⟨by omega, YR_0 k t _, fun m hm => absurd hm (by simp)⟩
          · rw [e] at this
            exact hax _ _ _ _ this
          · have : i = n + 1 := by
              rcases Nat.lt_trichotomy i (n + 1) with q | q | q
              · exact absurd (n2 i (by omega)) (by rw [i3]; decide)
              · exact q
              · exact absurd ((tg (n + 1)).resolve_left n3) (i2 (n + 1) q)
            subst this
            exact hK _ _ ⟨rfl, rfl, rAll_back h (fun q hq => (h2 q hq).trans (h1 q hq))⟩
        · refine hK _ _ ?_
          clear hcl hax
          clear cl ax
          refine mCall_k (fun K hK => ?_)
          refine mCall_sem MX9_over rfl rfl (Or.inl ⟨rfl, rfl, rfl⟩) rfl (mSem_wp MX9_over rfl aX9_over 300 [53] (fun cl ax hcl hax => ?_))
          refine hcl _ _ _ _ (w_X9_isHouse (n := nI k) hm.2.2.1 (fun _ _ => ?_) (fun c0 => absurd (And.intro a1 a2) c0))
          refine ⟨fun _ => ?_, fun h9 => absurd h9 (by decide)⟩
          refine hcl _ _ _ _ (w_isGone j (by omega) (fun c3 => absurd c3 c1) (fun _ => ?_))
          refine ⟨fun h9 => absurd h9 (by decide), fun _ => ?_⟩
          refine hcl _ _ _ _ (w_X9_isTooLate (y := A 75 1) rfl (fun c0 => absurd c0 c2) (fun _ => ?_))
          refine ⟨fun _ => ?_, fun h9 => absurd h9 (by decide)⟩
          refine hcl _ _ _ _ (w_copy75_77 (A := cnt1 (LA A R w2) 3) (fun R1 h1 => ?_))
          have e : va_up (va_up (cnt1 (LA A R w2) 3) 77 R1) 75 (A 75) = va_up (cnt1 (LA A R w2) 3) 77 R1 := by
            funext q
            unfold va_up
            split
            · rename_i c; rw [c]; rfl
            · rfl
          have this := lp_X9_over (E := E) (d := 4) (K := K) (A := va_up (cnt1 (LA A R w2) 3) 77 R1) (A0 := cnt1 (LA A R w2) 3) (B := B) hj hm (fun i i1 i2 i3 N R2 h2 => absurd (n2 i i1) (by rw [i3]; decide)) (fun i2 N R2 h2 => ?_) (0, A 75) ⟨by omega, YR_0 k t _, fun m hm => absurd hm (by simp)⟩
          · rw [e] at this
            exact hax _ _ _ _ this
          · exact hK _ _ ⟨rfl, rfl, rAll_backc h (fun q hq => (h2 q hq).trans (h1 q hq)) (by decide)⟩
  · refine ⟨fun h9 => absurd h9 (by decide), fun _ => ?_⟩
    refine hcl _ _ _ _ (w_X8_refuse 0 (by decide) (by decide) ?_)
    refine hK _ _ ?_
    clear hcl hax
    clear cl ax
    refine mCall_k (fun K hK => ?_)
    refine mCall_sem MX9_over rfl rfl (Or.inl ⟨rfl, rfl, rfl⟩) rfl (mSem_wp MX9_over rfl aX9_over 300 [] (fun cl ax hcl hax => ?_))
    refine hcl _ _ _ _ (w_X9_isHouse (n := nI k) hm.2.2.1 (fun c1 c2 => absurd (And.intro c1 c2) a0) (fun _ => ?_))
    refine ⟨fun h9 => absurd h9 (by decide), fun _ => ?_⟩
    exact hcl _ _ _ _ (w_X9_finding 0 (by decide) (by decide) (hK _ _ (rEnd_cnt h (by decide))))
def PT (N : Nat → Int32) (i j m : Nat) : Prop := (TR N i m).2 = 0 ∧ (TR N j m).2 = 0 ∧ ¬ 1 < ab (N (16 + 5 * i) - N (16 + 5 * j)) ∧ ¬ 30 < ab ((TR N i m).1 - (TR N j m).1)
theorem mb2 : ∀ i, i < 12 → ∀ j, j < 12 → (¬ ((((1 : Int32) <<< (nI i &&& 31)) ||| ((1 : Int32) <<< (nI j &&& 31))) >>> (nI i &&& 31)) &&& 1 = 0) ∧ ¬ ((((1 : Int32) <<< (nI i &&& 31)) ||| ((1 : Int32) <<< (nI j &&& 31))) >>> (nI j &&& 31)) &&& 1 = 0 := by decide
theorem NB_PT {A : Nat → Nat → Int32} {k t n i j : Nat} (hi : i < k) (hj : j < k) (hm : hM k t (A 75)) (h : rNow A) {R : Nat → Int32} {v : (Nat → Int32) × (Nat → Int32) × (Nat → Int32) × (Nat → Int32) × (Nat → Int32)} (hv : LI k n (((1 : Int32) <<< (nI i &&& 31)) ||| ((1 : Int32) <<< (nI j &&& 31))) A R v) : NB v.2.2.2.2 v.2.1 v.2.2.1 i j ↔ PT (A 75) i j n := by
  have k12 := hm.1
  have hh := rH h hm.2.2.1 hm.1
  have qi := hv.2.2 i hi (mb2 i (by omega) j (by omega)).1
  have qj := hv.2.2 j hj (mb2 i (by omega) j (by omega)).2
  unfold NB PT
  rw [← qi, ← qj, (hv.2.1 i hi).2.1, (hv.2.1 j hj).2.1, (hh i hi).1.2.1, (hh j hj).1.2.1]
theorem MB_PT {N N' : Nat → Int32} {k t n i j : Nat} (hi : i < k) (hj : j < k) (hm : hM k t N) (hY : YR k t n N N') : MB N' i j ↔ PT N i j n := by
  have k12 := hm.1
  have qi := hY.2.2.1 i hi
  have qj := hY.2.2.1 j hj
  have gi := TR_gone (hm.2.2.2.2.1 i hi).2 n
  have gj := TR_gone (hm.2.2.2.2.1 j hj).2 n
  unfold MB PT
  rw [← qi] at gi ⊢
  rw [← qj] at gj ⊢
  rw [hY.2.1 (16 + 5 * i) ⟨by omega, fun _ _ => by omega, fun _ _ => by omega⟩, hY.2.1 (16 + 5 * j) ⟨by omega, fun _ _ => by omega, fun _ _ => by omega⟩]
  refine ⟨fun ⟨a, b, c⟩ => ⟨gi.resolve_right a, gj.resolve_right b, c⟩, fun ⟨a, b, c⟩ => ⟨?_, ?_, c⟩⟩
  · intro q
    have a : N' (19 + 5 * i) = 0 := a
    rw [a] at q
    exact absurd q (by decide)
  · intro q
    have b : N' (19 + 5 * j) = 0 := b
    rw [b] at q
    exact absurd q (by decide)
theorem lp_X8_till {E : ME} {d : Nat} {A : Nat → Nat → Int32} {B : Nat → Nat → Int64} {K : MK} {k t i j : Nat} {R : Nat → Int32} (hi : i < k) (hj : j < k) (hm : hM k t (A 75)) (h : rNow A) (k1 : ∀ n, n ≤ 200 → (∀ m, m < n → PT (A 75) i j m) → ¬ PT (A 75) i j n → ∀ v, K (some (.int (nI n))) (SH, LA A R v, B)) (k0 : (∀ m, m ≤ 200 → PT (A 75) i j m) → ∀ v, K (some (.int 201)) (SH, LA A R v, B)) : ∀ v : Nat × (Nat → Int32) × (Nat → Int32) × (Nat → Int32) × (Nat → Int32) × (Nat → Int32), (v.1 ≤ 201 ∧ LI k v.1 (((1 : Int32) <<< (nI i &&& 31)) ||| ((1 : Int32) <<< (nI j &&& 31))) A R v.2 ∧ ∀ m, m < v.1 → PT (A 75) i j m) → mSem E (d + 5) nX8_till (SH, A, B) 0 0 K 61 [some (.ref 0), some (.int (nI i)), some (.int (nI j)), some (.int (nI v.1))] [] (SH, LA A R v.2, B) := by
  refine mSem_loop (σ := Nat × (Nat → Int32) × (Nat → Int32) × (Nat → Int32) × (Nat → Int32) × (Nat → Int32)) (h0 := (SH, A, B)) MX8_till rfl aX8_till 300 [61] (fun v => [some (.ref 0), some (.int (nI i)), some (.int (nI j)), some (.int (nI v.1))]) (fun v => (SH, LA A R v.2, B)) (fun v => v.1 ≤ 201 ∧ LI k v.1 (((1 : Int32) <<< (nI i &&& 31)) ||| ((1 : Int32) <<< (nI j &&& 31))) A R v.2 ∧ ∀ m, m < v.1 → PT (A 75) i j m) (fun v => 201 - v.1) ?_
  rintro ⟨n, v⟩ ⟨hn, hY, hg⟩ cl ax hcl hax hlp
  have hn : n ≤ 201 := hn
  have hY : LI k n (((1 : Int32) <<< (nI i &&& 31)) ||| ((1 : Int32) <<< (nI j &&& 31))) A R v := hY
  have hg : ∀ m, m < n → PT (A 75) i j m := hg
  have k12 := hm.1
  refine ⟨fun (c0 : nI 200 < nI n) => ?_, fun (c0 : ¬ nI 200 < nI n) => ?_⟩
  · rw [nI_ltI (by omega) (by omega)] at c0
    exact k0 (fun m hm => hg m (by omega)) v
  · rw [nI_ltI (by omega) (by omega)] at c0
    refine hcl _ _ _ _ (w_areNb35 (A := LA A R v) i j (by omega) (by omega) (fun c1 => ?_) (fun c1 => ?_))
    · have c1 := (NB_PT hi hj hm h hY).mp c1
      refine ⟨fun _ => ?_, fun h9 => absurd h9 (by decide)⟩
      refine hcl _ _ _ _ (w_later hm h hY (show A 2 2 + nI n = _ by rw [h.1.1.2.2]) (fun c v2 h2 => ?_))
      have this : ax 61 [some (.ref 0), some (.int (nI i)), some (.int (nI j)), some (.int (nI (n + 1)))] [] (SH, LA A R v2, B) := hlp (n + 1, v2) ⟨by show n + 1 ≤ 201; omega, h2, fun m hm => by
        have hm : m < n + 1 := hm
        by_cases e : m = n
        · rw [e]; exact c1
        · exact hg m (by omega)⟩ (by show 201 - (n + 1) < 201 - n; omega)
      rw [← nI_1] at this
      exact this
    · have c1 := fun q => c1 ((NB_PT hi hj hm h hY).mpr q)
      refine ⟨fun h9 => absurd h9 (by decide), fun _ => ?_⟩
      exact k1 n (by omega) hg c1 v
theorem lp_X9_till {E : ME} {d : Nat} {A A0 : Nat → Nat → Int32} {B : Nat → Nat → Int64} {K : MK} {k t i j : Nat} {N0 : Nat → Int32} (hi : i < k) (hj : j < k) (hij : i ≠ j) (hm : hM k t N0) (k1 : ∀ n, n ≤ 201 → (∀ m, m < n → PT N0 i j m) → (n ≤ 200 → ¬ PT N0 i j n) → ∀ N R2, (∀ q, q < 135 → R2 q = A 77 q) → K (some (.int (nI n))) (SH, va_up (va_up A 75 N) 75 R2, B)) : ∀ v : Nat × (Nat → Int32), (v.1 ≤ 201 ∧ YR k t v.1 N0 v.2 ∧ ∀ m, m < v.1 → PT N0 i j m) → mSem E (d + 8) nX9_till (SH, A0, B) 0 0 K 58 [some (.ref 74), some (.int (nI i)), some (.int (nI j)), some (.int (nI v.1))] [] (SH, va_up A 75 v.2, B) := by
  refine mSem_loop (σ := Nat × (Nat → Int32)) (h0 := (SH, A0, B)) MX9_till rfl aX9_till 300 [58] (fun v => [some (.ref 74), some (.int (nI i)), some (.int (nI j)), some (.int (nI v.1))]) (fun v => (SH, va_up A 75 v.2, B)) (fun v => v.1 ≤ 201 ∧ YR k t v.1 N0 v.2 ∧ ∀ m, m < v.1 → PT N0 i j m) (fun v => 201 - v.1) ?_
  rintro ⟨n, N⟩ ⟨hn, hY, hg⟩ cl ax hcl hax hlp
  have hn : n ≤ 201 := hn
  have hY : YR k t n N0 N := hY
  have hg : ∀ m, m < n → PT N0 i j m := hg
  have k12 := hm.1
  refine ⟨fun (c0 : nI 200 < nI n) => ?_, fun (c0 : ¬ nI 200 < nI n) => ?_⟩
  · rw [nI_ltI (by omega) (by omega)] at c0
    refine hcl _ _ _ _ (w_putBack (A := va_up A 75 N) (fun R2 h2 => ?_))
    exact k1 n (by omega) hg (fun q => by omega) N R2 h2
  · rw [nI_ltI (by omega) (by omega)] at c0
    refine hcl _ _ _ _ (w_areBe (A := va_up A 75 N) i j (by omega) (by omega) (fun _ c1 => ?_) (fun c1 => ?_))
    · have c1 := (MB_PT hi hj hm hY).mp c1
      refine ⟨fun h9 => absurd h9 (by decide), fun _ => ?_⟩
      refine hcl _ _ _ _ (w_yearsGo (n := 1) (A := va_up A 75 N) (by omega) (hM_YR hm hY) (fun N2 h2 => ?_))
      have this : ax 58 [some (.ref 74), some (.int (nI i)), some (.int (nI j)), some (.int (nI (n + 1)))] [] (SH, va_up A 75 N2, B) := hlp (n + 1, N2) ⟨by show n + 1 ≤ 201; omega, YR_step hm hY h2, fun m hm => by
        have hm : m < n + 1 := hm
        by_cases e : m = n
        · rw [e]; exact c1
        · exact hg m (by omega)⟩ (by show 201 - (n + 1) < 201 - n; omega)
      rw [← nI_1, ← up_up (F := N)] at this
      exact this
    · have c1 := fun q => c1 ⟨hij, (MB_PT hi hj hm hY).mpr q⟩
      refine ⟨fun _ => ?_, fun h9 => absurd h9 (by decide)⟩
      refine hcl _ _ _ _ (w_putBack (A := va_up A 75 N) (fun R2 h2 => ?_))
      exact k1 n (by omega) hg (fun _ => c1) N R2 h2
theorem op_till {E : ME} {v u : Int32} {A : Nat → Nat → Int32} {B : Nat → Nat → Int64} (h : rAll A B) : rOp E nX8_till nX9_till [.int v, .int u] A B := by
  obtain ⟨k, t, hm, hx, hx2⟩ := hM_of h.1
  have hy : A 2 2 = A 75 1 := h.1.1.1.2.2
  have k12 := hm.1
  refine rOp_of (fun K hK => ?_)
  refine mCall_sem MX8_till rfl rfl (Or.inl ⟨rfl, rfl, rfl⟩) rfl (mSem_wp MX8_till rfl aX8_till 300 [61] (fun cl ax hcl hax => ?_))
  refine hcl _ _ _ _ (w_X8_isHouse hx (fun a1 a2 => ?_) (fun a0 => ?_))
  · refine ⟨fun h9 => absurd h9 (by decide), fun _ => ?_⟩
    refine hcl _ _ _ _ (w_X8_isHouse hx (fun b1 b2 => ?_) (fun b0 => ?_))
    · refine ⟨fun h9 => absurd h9 (by decide), fun _ => ?_⟩
      refine ⟨fun (c : ¬ v = u) => ?_, fun (c : v = u) => ?_⟩
      · obtain ⟨i, hi, rfl⟩ := ho_ix k12 a1 a2
        obtain ⟨j, hj, rfl⟩ := ho_ix k12 b1 b2
        have hij : i ≠ j := fun q => c (by rw [q])
        refine hcl _ _ _ _ (w_X8_isPast (y := A 75 1) hy (fun c2 => ?_) (fun c2 => ?_))
        · refine ⟨fun h9 => absurd h9 (by decide), fun _ => ?_⟩
          refine hcl _ _ _ _ (w_X8_refuse 4 (by decide) (by decide) ?_)
          refine hK _ _ ?_
          clear hcl hax
          clear cl ax
          refine mCall_k (fun K hK => ?_)
          refine mCall_sem MX9_till rfl rfl (Or.inl ⟨rfl, rfl, rfl⟩) rfl (mSem_wp MX9_till rfl aX9_till 300 [] (fun cl ax hcl hax => ?_))
          refine hcl _ _ _ _ (w_X9_isHouse (n := nI k) hm.2.2.1 (fun _ _ => ?_) (fun c0 => absurd (And.intro a1 a2) c0))
          refine ⟨fun h9 => absurd h9 (by decide), fun _ => ?_⟩
          refine hcl _ _ _ _ (w_X9_isHouse (n := nI k) hm.2.2.1 (fun _ _ => ?_) (fun c0 => absurd (And.intro b1 b2) c0))
          refine ⟨fun h9 => absurd h9 (by decide), fun _ => ?_⟩
          refine ⟨fun _ => ?_, fun c3 => absurd c3 c⟩
          refine hcl _ _ _ _ (w_X9_isTooLate (y := A 75 1) rfl (fun _ => ?_) (fun c0 => absurd c2 c0))
          refine ⟨fun h9 => absurd h9 (by decide), fun _ => ?_⟩
          exact hcl _ _ _ _ (w_X9_finding 4 (by decide) (by decide) (hK _ _ (rEnd_cnt h (by decide))))
        · refine ⟨fun _ => ?_, fun h9 => absurd h9 (by decide)⟩
          refine hcl _ _ _ _ (w_takeL hm h.1 hx (fun R w hw => ?_))
          have fin : ∀ (w2 : (Nat → Int32) × (Nat → Int32) × (Nat → Int32) × (Nat → Int32) × (Nat → Int32)) (n : Nat), n ≤ 201 → (∀ m, m < n → PT (A 75) i j m) → (n ≤ 200 → ¬ PT (A 75) i j n) → K (some (.int (nI n))) (SH, LA A R w2, B) := by
            intro w2 n n1 n2 n3
            refine hK _ _ ?_
            clear hcl hax
            clear cl ax
            refine mCall_k (fun K hK => ?_)
            refine mCall_sem MX9_till rfl rfl (Or.inl ⟨rfl, rfl, rfl⟩) rfl (mSem_wp MX9_till rfl aX9_till 300 [58] (fun cl ax hcl hax => ?_))
            refine hcl _ _ _ _ (w_X9_isHouse (n := nI k) hm.2.2.1 (fun _ _ => ?_) (fun c0 => absurd (And.intro a1 a2) c0))
            refine ⟨fun h9 => absurd h9 (by decide), fun _ => ?_⟩
            refine hcl _ _ _ _ (w_X9_isHouse (n := nI k) hm.2.2.1 (fun _ _ => ?_) (fun c0 => absurd (And.intro b1 b2) c0))
            refine ⟨fun h9 => absurd h9 (by decide), fun _ => ?_⟩
            refine ⟨fun _ => ?_, fun c3 => absurd c3 c⟩
            refine hcl _ _ _ _ (w_X9_isTooLate (y := A 75 1) rfl (fun c0 => absurd c0 c2) (fun _ => ?_))
            refine ⟨fun _ => ?_, fun h9 => absurd h9 (by decide)⟩
            refine hcl _ _ _ _ (w_copy75_77 (A := LA A R w2) (fun R1 h1 => ?_))
            have e : va_up (va_up (LA A R w2) 77 R1) 75 (A 75) = va_up (LA A R w2) 77 R1 := by
              funext q
              unfold va_up
              split
              · rename_i c; rw [c]; rfl
              · rfl
            have this := lp_X9_till (E := E) (d := 4) (K := K) (A := va_up (LA A R w2) 77 R1) (A0 := LA A R w2) (B := B) hi hj hij hm (fun p p1 p2 p3 N R2 h2 => ?_) (0, A 75) ⟨by omega, YR_0 k t _, fun m hm => absurd hm (by simp)⟩
            · rw [e] at this
              exact hax _ _ _ _ this
            · have : p = n := by
                rcases Nat.lt_trichotomy p n with q | q | q
                · exact absurd (n2 p q) (p3 (by omega))
                · exact q
                · exact absurd (p2 n q) (n3 (by omega))
              subst this
              exact hK _ _ ⟨rfl, rfl, rAll_back h (fun q hq => (h2 q hq).trans (h1 q hq))⟩
          refine hax _ _ _ _ (lp_X8_till hi hj hm h.1 (fun n n1 n2 n3 w2 => fin w2 n (by omega) n2 (fun _ => n3)) (fun n2 w2 => fin w2 201 (by omega) (fun m hm => n2 m (by omega)) (fun q => by omega)) (0, w) ⟨by omega, hw _, fun m hm => absurd hm (by simp)⟩)
      · refine hcl _ _ _ _ (w_X8_refuse 0 (by decide) (by decide) ?_)
        refine hK _ _ ?_
        clear hcl hax
        clear cl ax
        refine mCall_k (fun K hK => ?_)
        refine mCall_sem MX9_till rfl rfl (Or.inl ⟨rfl, rfl, rfl⟩) rfl (mSem_wp MX9_till rfl aX9_till 300 [] (fun cl ax hcl hax => ?_))
        refine hcl _ _ _ _ (w_X9_isHouse (n := nI k) hm.2.2.1 (fun _ _ => ?_) (fun c0 => absurd (And.intro a1 a2) c0))
        refine ⟨fun h9 => absurd h9 (by decide), fun _ => ?_⟩
        refine hcl _ _ _ _ (w_X9_isHouse (n := nI k) hm.2.2.1 (fun _ _ => ?_) (fun c0 => absurd (And.intro b1 b2) c0))
        refine ⟨fun h9 => absurd h9 (by decide), fun _ => ?_⟩
        refine ⟨fun c3 => absurd c c3, fun _ => ?_⟩
        exact hcl _ _ _ _ (w_X9_finding 0 (by decide) (by decide) (hK _ _ (rEnd_cnt h (by decide))))
    · refine ⟨fun _ => ?_, fun h9 => absurd h9 (by decide)⟩
      refine hcl _ _ _ _ (w_X8_refuse 0 (by decide) (by decide) ?_)
      refine hK _ _ ?_
      clear hcl hax
      clear cl ax
      refine mCall_k (fun K hK => ?_)
      refine mCall_sem MX9_till rfl rfl (Or.inl ⟨rfl, rfl, rfl⟩) rfl (mSem_wp MX9_till rfl aX9_till 300 [] (fun cl ax hcl hax => ?_))
      refine hcl _ _ _ _ (w_X9_isHouse (n := nI k) hm.2.2.1 (fun _ _ => ?_) (fun c0 => absurd (And.intro a1 a2) c0))
      refine ⟨fun h9 => absurd h9 (by decide), fun _ => ?_⟩
      refine hcl _ _ _ _ (w_X9_isHouse (n := nI k) hm.2.2.1 (fun c1 c2 => absurd (And.intro c1 c2) b0) (fun _ => ?_))
      refine ⟨fun _ => ?_, fun h9 => absurd h9 (by decide)⟩
      exact hcl _ _ _ _ (w_X9_finding 0 (by decide) (by decide) (hK _ _ (rEnd_cnt h (by decide))))
  · refine ⟨fun _ => ?_, fun h9 => absurd h9 (by decide)⟩
    refine hcl _ _ _ _ (w_X8_refuse 0 (by decide) (by decide) ?_)
    refine hK _ _ ?_
    clear hcl hax
    clear cl ax
    refine mCall_k (fun K hK => ?_)
    refine mCall_sem MX9_till rfl rfl (Or.inl ⟨rfl, rfl, rfl⟩) rfl (mSem_wp MX9_till rfl aX9_till 300 [] (fun cl ax hcl hax => ?_))
    refine hcl _ _ _ _ (w_X9_isHouse (n := nI k) hm.2.2.1 (fun c1 c2 => absurd (And.intro c1 c2) a0) (fun _ => ?_))
    refine ⟨fun _ => ?_, fun h9 => absurd h9 (by decide)⟩
    exact hcl _ _ _ _ (w_X9_finding 0 (by decide) (by decide) (hK _ _ (rEnd_cnt h (by decide))))
