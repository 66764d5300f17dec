/-! straight, when -/
def SPn (N : Nat → Int32) (s : Int32) (k n : Nat) : Prop := SPa (SB s) (fun x => N (16 + 5 * x)) (fun x => (TR N x n).1) (fun x => (TR N x n).2) k
theorem X_SP {A : Nat → Nat → Int32} {k t n : Nat} {s : Int32} {R : Nat → Int32} {v : (Nat → Int32) × (Nat → Int32) × (Nat → Int32) × (Nat → Int32) × (Nat → Int32)} (hm : hM k t (A 75)) (h : rNow A) (hv : LI k n s A R v) : SPa (SB s) v.2.1 v.2.2.1 v.2.2.2.2 k ↔ SPn (A 75) s k n := by
  have hh := rH h hm.2.2.1 hm.1
  have e : ∀ a, a < k → SB s a → v.2.1 a = A 75 (16 + 5 * a) ∧ v.2.2.1 a = (TR (A 75) a n).1 ∧ v.2.2.2.2 a = (TR (A 75) a n).2 := fun a ha sa => by
    have q := hv.2.2 a ha (SB_0 sa)
    exact ⟨(hv.2.1 a ha).2.1.trans (hh a ha).1.2.1, congrArg Prod.fst q, congrArg Prod.snd q⟩
  exact ⟨fun q => SPa_c e q, fun q => SPa_c (fun a ha sa => ⟨(e a ha sa).1.symm, (e a ha sa).2.1.symm, (e a ha sa).2.2.symm⟩) q⟩
theorem M_SP {N N' : Nat → Int32} {k t n : Nat} {s : Int32} (hm : hM k t N) (hY : YR k t n N N') : SPa (SB s) (fun x => N' (16 + 5 * x)) (fun x => N' (17 + 5 * x)) (fun x => N' (19 + 5 * x)) k ↔ SPn N s k n := by
  have k12 := hm.1
  have e : ∀ a, a < k → SB s a → (fun x => N' (16 + 5 * x)) a = N (16 + 5 * a) ∧ (fun x => N' (17 + 5 * x)) a = (TR N a n).1 ∧ (fun x => N' (19 + 5 * x)) a = (TR N a n).2 := fun a ha sa => by
    have q := hY.2.2.1 a ha
    exact ⟨hY.2.1 (16 + 5 * a) ⟨by omega, fun _ _ => by omega, fun _ _ => by omega⟩, congrArg Prod.fst q, congrArg Prod.snd q⟩
  exact ⟨fun q => SPa_c e q, fun q => SPa_c (fun a ha sa => ⟨(e a ha sa).1.symm, (e a ha sa).2.1.symm, (e a ha sa).2.2.symm⟩) q⟩
theorem LA_nb3 {A : Nat → Nat → Int32} {R : Nat → Int32} {T : (Nat → Int32) × (Nat → Int32) × (Nat → Int32)} {v : (Nat → Int32) × (Nat → Int32) × (Nat → Int32) × (Nat → Int32) × (Nat → Int32)} : nb3 (LA A R v) T = LA (nb3 A T) R v := by
  funext q
  unfold LA nb5 nb3 va_up
  by_cases h1 : q = 44
  · simp [h1]
  by_cases h2 : q = 43
  · simp [h2]
  by_cases h3 : q = 42
  · simp [h3]
  simp [h1, h2, h3]
theorem nb3_nb3 {A : Nat → Nat → Int32} {T T' : (Nat → Int32) × (Nat → Int32) × (Nat → Int32)} : nb3 (nb3 A T) T' = nb3 A T' := nb3_up
theorem w_lslL {E : ME} {d : Nat} {A : Nat → Nat → Int32} {B : Nat → Nat → Int64} {K : MK} {k t n : Nat} {s : Int32} {R : Nat → Int32} {v : (Nat → Int32) × (Nat → Int32) × (Nat → Int32) × (Nat → Int32) × (Nat → Int32)} (hm : hM k t (A 75)) (h : rNow A) (hv : LI k n s A R v) (k1 : SPn (A 75) s k n → ∀ T, K (some (.int 1)) (SH, LA (nb3 A T) R v, B)) (k0 : ¬ SPn (A 75) s k n → ∀ T, K (some (.int 0)) (SH, LA (nb3 A T) R v, B)) : mCall E (d + 2) nX8_liesStraightLater [.ref 0, .int s] (SH, LA A R v, B) K := by
  have hh := rH h hm.2.2.1 hm.1
  have e := X_SP hm h hv
  refine w_lsl (A := LA A R v) hm.1 hv.1 (fun a ha sa => ?_) (fun a ha sa g0 => ?_) (fun q T => ?_) (fun q T => ?_)
  · show 0 ≤ v.2.1 a ∧ v.2.1 a ≤ 8
    rw [(hv.2.1 a ha).2.1, (hh a ha).1.2.1]
    exact (hh a ha).2.2.1
  · have q := hv.2.2 a ha (SB_0 sa)
    have qf : v.2.2.1 a = (TR (A 75) a n).1 := congrArg Prod.fst q
    have qg : v.2.2.2.2 a = (TR (A 75) a n).2 := congrArg Prod.snd q
    have g0 : v.2.2.2.2 a = 0 := g0
    show 0 ≤ v.2.2.1 a ∧ v.2.2.1 a ≤ 9998
    have b := TR_bX h hm.2.2.1 hm.1 ha n
    rw [qg] at g0
    rw [qf]
    have e9 := h.1.2.2.1.2
    refine ⟨b.1.1, ?_⟩
    rcases b.2 with ⟨_, z⟩ | z
    · generalize (TR (A 75) a n).1 = x at z
      generalize A 75 0 = y at z e9
      clear b q qf qg hh e hv h hm k0 k1 g0
      grind
    · exact absurd (g0.symm.trans z) (by decide)
  · rw [LA_nb3]; exact k1 (e.mp q) T
  · rw [LA_nb3]; exact k0 (fun z => q (e.mpr z)) T
theorem w_isStrN {E : ME} {d : Nat} {A : Nat → Nat → Int32} {B : Nat → Nat → Int64} {K : MK} {k t n : Nat} {s : Int32} {N0 N : Nat → Int32} (hm : hM k t N0) (hY : YR k t n N0 N) (hN : A 75 = N) (hb : ∀ j, j < k → ∀ n, 0 ≤ (TR N0 j n).1 ∧ (TR N0 j n).1 ≤ 9999) (k1 : SPn N0 s k n → K (some (.int 1)) (SH, A, B)) (k0 : ¬ SPn N0 s k n → K (some (.int 0)) (SH, A, B)) : mCall E (d + 2) nX9_isStraight [.ref 74, .int s] (SH, A, B) K := by
  subst hN
  have e := M_SP (s := s) hm hY
  refine w_isStraight hm.1 (hM_YR hm hY).2.2.1 (fun x hx => ?_) (fun x hx => ?_) (fun q => k1 (e.mp q)) (fun q => k0 (fun z => q (e.mpr z)))
  · rw [show A 75 (19 + 5 * x) = (TR N0 x n).2 from congrArg Prod.snd (hY.2.2.1 x hx)]
    exact TR_gone (hm.2.2.2.2.1 x hx).2 n
  · rw [show A 75 (17 + 5 * x) = (TR N0 x n).1 from congrArg Prod.fst (hY.2.2.1 x hx)]
    exact hb x hx n
theorem op_straight {E : ME} {v u : Int32} {A : Nat → Nat → Int32} {B : Nat → Nat → Int64} (h : rAll A B) : rOp E nX8_straight nX9_straight [.int v, .int u] A B := by
  obtain ⟨k, t, hm, hx, hx2⟩ := hM_of h.1
  have hy : A 2 2 = A 75 1 := h.1.1.1.2.2
  have k12 := hm.1
  have hb : ∀ j, j < k → ∀ n, 0 ≤ (TR (A 75) j n).1 ∧ (TR (A 75) j n).1 ≤ 9999 := fun j hj n => (TR_bX h.1 hm.2.2.1 hm.1 hj n).1
  refine rOp_of (fun K hK => ?_)
  refine mCall_sem MX8_straight rfl rfl (Or.inl ⟨rfl, rfl, rfl⟩) rfl (mSem_wp MX8_straight rfl aX8_straight 300 [] (fun cl ax hcl hax => ?_))
  refine hcl _ _ _ _ (w_isSetOf hx (fun a1 => ?_) (fun a0 => ?_))
  · refine ⟨fun h9 => absurd h9 (by decide), fun _ => ?_⟩
    refine hcl _ _ _ _ (w_X8 (fun b1 b2 => ?_) (fun b0 => ?_))
    · refine ⟨fun _ => ?_, fun h9 => absurd h9 (by decide)⟩
      obtain ⟨n, hn, rfl⟩ := ix_le 200 b1 b2 rfl
      refine hcl _ _ _ _ (w_X8_isPast (y := A 75 1) hy (fun c => ?_) (fun c => ?_))
      · refine ⟨fun h9 => absurd h9 (by decide), fun _ => ?_⟩
        refine hcl _ _ _ _ (w_X8_refuse 4 (by decide) (by decide) ?_)
        refine hK _ _ ?_
        clear hcl hax
        clear cl ax
        refine mCall_k (fun K hK => ?_)
        refine mCall_sem MX9_straight rfl rfl (Or.inl ⟨rfl, rfl, rfl⟩) rfl (mSem_wp MX9_straight rfl aX9_straight 300 [] (fun cl ax hcl hax => ?_))
        refine hcl _ _ _ _ (w_isSet (A := cnt1 A 4) k12 hm.2.2.1 (fun _ => ?_) (fun c0 => absurd a1 c0))
        refine ⟨fun h9 => absurd h9 (by decide), fun _ => ?_⟩
        refine hcl _ _ _ _ (w_X9 (fun _ _ => ?_) (fun c0 => absurd (And.intro b1 b2) c0))
        refine ⟨fun _ => ?_, fun h9 => absurd h9 (by decide)⟩
        refine hcl _ _ _ _ (w_X9_isTooLate (y := A 75 1) rfl (fun _ => ?_) (fun c0 => absurd c c0))
        refine ⟨fun h9 => absurd h9 (by decide), fun _ => ?_⟩
        exact hcl _ _ _ _ (w_X9_finding 4 (by decide) (by decide) (hK _ _ (rEnd_cnt h (by decide))))
      · refine ⟨fun _ => ?_, fun h9 => absurd h9 (by decide)⟩
        refine hcl _ _ _ _ (w_look (by omega) hm h.1 hx (fun R w hw => ?_))
        have fin : ∀ (T : (Nat → Int32) × (Nat → Int32) × (Nat → Int32)) (z : Int32), ((z = 1 ∧ SPn (A 75) v k n) ∨ (z = 0 ∧ ¬ SPn (A 75) v k n)) → K (some (.int z)) (SH, LA (nb3 A T) R w, B) := by
          intro T z hz
          refine hK _ _ ?_
          clear hcl hax
          clear cl ax
          refine mCall_k (fun K hK => ?_)
          refine mCall_sem MX9_straight rfl rfl (Or.inl ⟨rfl, rfl, rfl⟩) rfl (mSem_wp MX9_straight rfl aX9_straight 300 [] (fun cl ax hcl hax => ?_))
          refine hcl _ _ _ _ (w_isSet (A := LA (nb3 A T) R w) k12 hm.2.2.1 (fun _ => ?_) (fun c0 => absurd a1 c0))
          refine ⟨fun h9 => absurd h9 (by decide), fun _ => ?_⟩
          refine hcl _ _ _ _ (w_X9 (fun _ _ => ?_) (fun c0 => absurd (And.intro b1 b2) c0))
          refine ⟨fun _ => ?_, fun h9 => absurd h9 (by decide)⟩
          refine hcl _ _ _ _ (w_X9_isTooLate (y := A 75 1) rfl (fun c0 => absurd c0 c) (fun _ => ?_))
          refine ⟨fun _ => ?_, fun h9 => absurd h9 (by decide)⟩
          refine hcl _ _ _ _ (w_copy75_77 (A := LA (nb3 A T) R w) (fun R1 h1 => ?_))
          refine hcl _ _ _ _ (w_yearsGo (A := va_up (LA (nb3 A T) R w) 77 R1) (by omega) hm (fun N hN => ?_))
          refine hcl _ _ _ _ (w_isStrN (A := va_up (va_up (LA (nb3 A T) R w) 77 R1) 75 N) hm hN rfl hb (fun c1 => ?_) (fun c1 => ?_))
          · refine ⟨fun h9 => absurd h9 (by decide), fun _ => ?_⟩
            refine hcl _ _ _ _ (w_putBack (A := va_up (va_up (LA (nb3 A T) R w) 77 R1) 75 N) (fun R2 h2 => ?_))
            have : z = 1 := hz.elim (fun q => q.1) (fun q => absurd c1 q.2)
            subst this
            exact hK _ _ ⟨rfl, rfl, rAll_back (A := nb3 A T) h (fun q hq => (h2 q hq).trans (h1 q hq))⟩
          · refine ⟨fun _ => ?_, fun h9 => absurd h9 (by decide)⟩
            refine hcl _ _ _ _ (w_putBack (A := va_up (va_up (LA (nb3 A T) R w) 77 R1) 75 N) (fun R2 h2 => ?_))
            have : z = 0 := hz.elim (fun q => absurd q.2 c1) (fun q => q.1)
            subst this
            exact hK _ _ ⟨rfl, rfl, rAll_back (A := nb3 A T) h (fun q hq => (h2 q hq).trans (h1 q hq))⟩
        refine hcl _ _ _ _ (w_lslL hm h.1 hw (fun q T => ?_) (fun q T => ?_))
        · refine ⟨fun h9 => absurd h9 (by decide), fun _ => ?_⟩
          exact fin T 1 (Or.inl ⟨rfl, q⟩)
        · refine ⟨fun _ => ?_, fun h9 => absurd h9 (by decide)⟩
          exact fin T 0 (Or.inr ⟨rfl, q⟩)
    · refine ⟨fun h9 => absurd h9 (by decide), fun _ => ?_⟩
      refine hcl _ _ _ _ (w_X8_refuse 0 (by decide) (by decide) ?_)
      refine hK _ _ ?_
      clear hcl hax
      clear cl ax
      refine mCall_k (fun K hK => ?_)
      refine mCall_sem MX9_straight rfl rfl (Or.inl ⟨rfl, rfl, rfl⟩) rfl (mSem_wp MX9_straight rfl aX9_straight 300 [] (fun cl ax hcl hax => ?_))
      refine hcl _ _ _ _ (w_isSet (A := cnt1 A 0) k12 hm.2.2.1 (fun _ => ?_) (fun c0 => absurd a1 c0))
      refine ⟨fun h9 => absurd h9 (by decide), fun _ => ?_⟩
      refine hcl _ _ _ _ (w_X9 (fun c1 c2 => absurd (And.intro c1 c2) b0) (fun _ => ?_))
      refine ⟨fun h9 => absurd h9 (by decide), fun _ => ?_⟩
      exact hcl _ _ _ _ (w_X9_finding 0 (by decide) (by decide) (hK _ _ (rEnd_cnt h (by decide))))
  · refine ⟨fun _ => ?_, fun h9 => absurd h9 (by decide)⟩
    refine hcl _ _ _ _ (w_X8_refuse 0 (by decide) (by decide) ?_)
    refine hK _ _ ?_
    clear hcl hax
    clear cl ax
    refine mCall_k (fun K hK => ?_)
    refine mCall_sem MX9_straight rfl rfl (Or.inl ⟨rfl, rfl, rfl⟩) rfl (mSem_wp MX9_straight rfl aX9_straight 300 [] (fun cl ax hcl hax => ?_))
    refine hcl _ _ _ _ (w_isSet (A := cnt1 A 0) k12 hm.2.2.1 (fun c0 => absurd c0 a0) (fun _ => ?_))
    refine ⟨fun _ => ?_, fun h9 => absurd h9 (by decide)⟩
    exact hcl _ _ _ _ (w_X9_finding 0 (by decide) (by decide) (hK _ _ (rEnd_cnt h (by decide))))
theorem lp_X8_when {E : ME} {d : Nat} {A : Nat → Nat → Int32} {B : Nat → Nat → Int64} {K : MK} {k t : Nat} {s : Int32} {R : Nat → Int32} (hm : hM k t (A 75)) (h : rNow A) (k1 : ∀ n, n ≤ 60 → (∀ m, m < n → ¬ SPn (A 75) s k m) → SPn (A 75) s k n → ∀ T v, K (some (.int (nI n))) (SH, LA (nb3 A T) R v, B)) (k0 : (∀ m, m ≤ 60 → ¬ SPn (A 75) s k m) → ∀ T v, K (some (.int (-1000000004))) (SH, cnt1 (LA (nb3 A T) R v) 3, B)) : ∀ p : Nat × ((Nat → Int32) × (Nat → Int32) × (Nat → Int32)) × (Nat → Int32) × (Nat → Int32) × (Nat → Int32) × (Nat → Int32) × (Nat → Int32), (p.1 ≤ 61 ∧ LI k p.1 s A R p.2.2 ∧ ∀ m, m < p.1 → ¬ SPn (A 75) s k m) → mSem E (d + 5) nX8_when (SH, A, B) 0 0 K 47 [some (.ref 0), some (.int s), some (.int (nI p.1))] [] (SH, LA (nb3 A p.2.1) R p.2.2, B) := by
  refine mSem_loop (σ := Nat × ((Nat → Int32) × (Nat → Int32) × (Nat → Int32)) × (Nat → Int32) × (Nat → Int32) × (Nat → Int32) × (Nat → Int32) × (Nat → Int32)) (h0 := (SH, A, B)) MX8_when rfl aX8_when 300 [47] (fun p => [some (.ref 0), some (.int s), some (.int (nI p.1))]) (fun p => (SH, LA (nb3 A p.2.1) R p.2.2, B)) (fun p => p.1 ≤ 61 ∧ LI k p.1 s A R p.2.2 ∧ ∀ m, m < p.1 → ¬ SPn (A 75) s k m) (fun p => 61 - p.1) ?_
  rintro ⟨n, T, v⟩ ⟨hn, hY, hg⟩ cl ax hcl hax hlp
  have hn : n ≤ 61 := hn
  have hY : LI k n s A R v := hY
  have hg : ∀ m, m < n → ¬ SPn (A 75) s k m := hg
  refine ⟨fun (c0 : nI 60 < nI n) => ?_, fun (c0 : ¬ nI 60 < nI n) => ?_⟩
  · rw [nI_ltI (by omega) (by omega)] at c0
    refine hcl _ _ _ _ (w_X8_refuse (A := LA (nb3 A T) R v) 3 (by decide) (by decide) ?_)
    exact k0 (fun m hm => hg m (by omega)) T v
  · rw [nI_ltI (by omega) (by omega)] at c0
    refine hcl _ _ _ _ (w_lslL (A := nb3 A T) hm h hY (fun q T' => ?_) (fun q T' => ?_))
    · rw [nb3_nb3]
      refine ⟨fun h9 => absurd h9 (by decide), fun _ => ?_⟩
      exact k1 n (by omega) hg q T' v
    · rw [nb3_nb3]
      refine ⟨fun _ => ?_, fun h9 => absurd h9 (by decide)⟩
      refine hcl _ _ _ _ (w_later (A := nb3 A T') hm h hY (show A 2 2 + nI n = _ by rw [h.1.1.2.2]; rfl) (fun c v2 h2 => ?_))
      have this : ax 47 [some (.ref 0), some (.int s), some (.int (nI (n + 1)))] [] (SH, LA (nb3 A T') R v2, B) := hlp (n + 1, T', v2) ⟨by show n + 1 ≤ 61; omega, h2, fun m hm => by
        have hm : m < n + 1 := hm
        by_cases e : m = n
        · rw [e]; exact q
        · exact hg m (by omega)⟩ (by show 61 - (n + 1) < 61 - n; omega)
      rw [← nI_1] at this
      exact this
theorem lp_X9_when {E : ME} {d : Nat} {A A0 : Nat → Nat → Int32} {B : Nat → Nat → Int64} {K : MK} {k t : Nat} {s : Int32} {N0 : Nat → Int32} (hm : hM k t N0) (hb : ∀ j, j < k → ∀ n, 0 ≤ (TR N0 j n).1 ∧ (TR N0 j n).1 ≤ 9999) (k1 : ∀ n, n ≤ 60 → (∀ m, m < n → ¬ SPn N0 s k m) → SPn N0 s k n → ∀ N R2, (∀ q, q < 135 → R2 q = A 77 q) → K (some (.int (nI n))) (SH, va_up (va_up A 75 N) 75 R2, B)) (k0 : (∀ m, m ≤ 60 → ¬ SPn N0 s k m) → ∀ N R2, (∀ q, q < 135 → R2 q = A 77 q) → K (some (.int (-1000000004))) (SH, cnt2 (va_up (va_up A 75 N) 75 R2) 3, B)) : ∀ v : Nat × (Nat → Int32), (v.1 ≤ 61 ∧ YR k t v.1 N0 v.2 ∧ ∀ m, m < v.1 → ¬ SPn N0 s k m) → mSem E (d + 8) nX9_when (SH, A0, B) 0 0 K 44 [some (.ref 74), some (.int s), some (.int (nI v.1)), none] [] (SH, va_up A 75 v.2, B) := by
  refine mSem_loop (σ := Nat × (Nat → Int32)) (h0 := (SH, A0, B)) MX9_when rfl aX9_when 300 [44] (fun v => [some (.ref 74), some (.int s), some (.int (nI v.1)), none]) (fun v => (SH, va_up A 75 v.2, B)) (fun v => v.1 ≤ 61 ∧ YR k t v.1 N0 v.2 ∧ ∀ m, m < v.1 → ¬ SPn N0 s k m) (fun v => 61 - v.1) ?_
  rintro ⟨n, N⟩ ⟨hn, hY, hg⟩ cl ax hcl hax hlp
  have hn : n ≤ 61 := hn
  have hY : YR k t n N0 N := hY
  have hg : ∀ m, m < n → ¬ SPn N0 s k m := hg
  refine ⟨fun (c0 : nI 60 < nI n) => ?_, fun (c0 : ¬ nI 60 < nI n) => ?_⟩
  · have c1 := c0
    rw [nI_ltI (by omega) (by omega)] at c0
    refine hcl _ _ _ _ (w_putBack (A := va_up A 75 N) (fun R2 h2 => ?_))
    refine ⟨fun (c2 : nI n ≤ nI 60) => absurd c2 (by rw [nI_leI (by omega) (by omega)]; omega), fun _ => ?_⟩
    refine hcl _ _ _ _ (w_X9_finding (A := va_up (va_up A 75 N) 75 R2) 3 (by decide) (by decide) ?_)
    exact k0 (fun m hm => hg m (by omega)) N R2 h2
  · rw [nI_ltI (by omega) (by omega)] at c0
    refine hcl _ _ _ _ (w_isStrN (A := va_up A 75 N) hm hY rfl hb (fun c1 => ?_) (fun c1 => ?_))
    · refine ⟨fun _ => ?_, fun h9 => absurd h9 (by decide)⟩
      refine hcl _ _ _ _ (w_putBack (A := va_up A 75 N) (fun R2 h2 => ?_))
      refine ⟨fun _ => ?_, fun (c2 : ¬ nI n ≤ nI 60) => absurd (by rw [nI_leI (by omega) (by omega)]; omega) c2⟩
      exact k1 n (by omega) hg c1 N R2 h2
    · refine ⟨fun h9 => absurd h9 (by decide), fun _ => ?_⟩
      refine hcl _ _ _ _ (w_yearsGo (n := 1) (A := va_up A 75 N) (by omega) (hM_YR hm hY) (fun N2 h2 => ?_))
      have this : ax 44 [some (.ref 74), some (.int s), some (.int (nI (n + 1))), none] [] (SH, va_up A 75 N2, B) := hlp (n + 1, N2) ⟨by show n + 1 ≤ 61; omega, YR_step hm hY h2, fun m hm => by
        have hm : m < n + 1 := hm
        by_cases e : m = n
        · rw [e]; exact c1
        · exact hg m (by omega)⟩ (by show 61 - (n + 1) < 61 - n; omega)
      rw [← nI_1, ← up_up (F := N)] at this
      exact this
theorem op_when {E : ME} {v : Int32} {A : Nat → Nat → Int32} {B : Nat → Nat → Int64} (h : rAll A B) : rOp E nX8_when nX9_when [.int v] A B := by
  obtain ⟨k, t, hm, hx, hx2⟩ := hM_of h.1
  have hy : A 2 2 = A 75 1 := h.1.1.1.2.2
  have k12 := hm.1
  have hb : ∀ j, j < k → ∀ n, 0 ≤ (TR (A 75) j n).1 ∧ (TR (A 75) j n).1 ≤ 9999 := fun j hj n => (TR_bX h.1 hm.2.2.1 hm.1 hj n).1
  refine rOp_of (fun K hK => ?_)
  refine mCall_sem MX8_when rfl rfl (Or.inl ⟨rfl, rfl, rfl⟩) rfl (mSem_wp MX8_when rfl aX8_when 300 [47] (fun cl ax hcl hax => ?_))
  refine hcl _ _ _ _ (w_isSetOf hx (fun a1 => ?_) (fun a0 => ?_))
  · refine ⟨fun _ => ?_, fun h9 => absurd h9 (by decide)⟩
    refine hcl _ _ _ _ (w_X8_isPast (y := A 75 1) hy (fun c => ?_) (fun c => ?_))
    · refine ⟨fun h9 => absurd h9 (by decide), fun _ => ?_⟩
      refine hcl _ _ _ _ (w_X8_refuse 4 (by decide) (by decide) ?_)
      refine hK _ _ ?_
      clear hcl hax
      clear cl ax
      refine mCall_k (fun K hK => ?_)
      refine mCall_sem MX9_when rfl rfl (Or.inl ⟨rfl, rfl, rfl⟩) rfl (mSem_wp MX9_when rfl aX9_when 300 [] (fun cl ax hcl hax => ?_))
      refine hcl _ _ _ _ (w_isSet (A := cnt1 A 4) k12 hm.2.2.1 (fun _ => ?_) (fun c0 => absurd a1 c0))
      refine ⟨fun _ => ?_, fun h9 => absurd h9 (by decide)⟩
      refine hcl _ _ _ _ (w_X9_isTooLate (y := A 75 1) rfl (fun _ => ?_) (fun c0 => absurd c c0))
      refine ⟨fun h9 => absurd h9 (by decide), fun _ => ?_⟩
      exact hcl _ _ _ _ (w_X9_finding 4 (by decide) (by decide) (hK _ _ (rEnd_cnt h (by decide))))
    · refine ⟨fun _ => ?_, fun h9 => absurd h9 (by decide)⟩
      refine hcl _ _ _ _ (w_takeL hm h.1 hx (fun R w hw => ?_))
      have e3 : nb3 A (A 42, A 43, A 44) = A := by
        rw [nb3_self]
        funext q
        unfold va_up
        split
        · rename_i c; rw [c]
        · rfl
      have this := lp_X8_when (E := E) (d := 7) (B := B) (K := K) (s := v) (R := R) hm h.1 (fun n n1 n2 n3 T w2 => ?_) (fun n2 T w2 => ?_) (0, (A 42, A 43, A 44), w) ⟨by omega, hw _, fun m hm => absurd hm (by simp)⟩
      · rw [show (0, (A 42, A 43, A 44), w).2.1 = (A 42, A 43, A 44) from rfl, e3] at this
        exact hax _ _ _ _ this
      · refine hK _ _ ?_
        clear hcl hax
        clear cl ax
        refine mCall_k (fun K hK => ?_)
        refine mCall_sem MX9_when rfl rfl (Or.inl ⟨rfl, rfl, rfl⟩) rfl (mSem_wp MX9_when rfl aX9_when 300 [44] (fun cl ax hcl hax => ?_))
        refine hcl _ _ _ _ (w_isSet (A := LA (nb3 A T) R w2) k12 hm.2.2.1 (fun _ => ?_) (fun c0 => absurd a1 c0))
        refine ⟨fun _ => ?_, fun h9 => absurd h9 (by decide)⟩
        refine hcl _ _ _ _ (w_X9_isTooLate (y := A 75 1) rfl (fun c0 => absurd c0 c) (fun _ => ?_))
        refine ⟨fun _ => ?_, fun h9 => absurd h9 (by decide)⟩
        refine hcl _ _ _ _ (w_copy75_77 (A := LA (nb3 A T) R w2) (fun R1 h1 => ?_))
        have e : va_up (va_up (LA (nb3 A T) R w2) 77 R1) 75 (A 75) = va_up (LA (nb3 A T) R w2) 77 R1 := by
          funext q
          unfold va_up
          split
          · rename_i c; rw [c]; rfl
          · rfl
        have this := lp_X9_when (E := E) (d := 4) (K := K) (s := v) (A := va_up (LA (nb3 A T) R w2) 77 R1) (A0 := LA (nb3 A T) R w2) (B := B) hm hb (fun i i1 i2 i3 N R2 h2 => ?_) (fun i2 => absurd n3 (i2 n n1)) (0, A 75) ⟨by omega, YR_0 k t _, fun m hm => absurd hm (by simp)⟩
        · rw [e] at this
          exact hax _ _ _ _ this
        · have : i = n := by
            rcases Nat.lt_trichotomy i n with q | q | q
            · exact absurd i3 (n2 i q)
            · exact q
            · exact absurd n3 (i2 n q)
          subst this
          exact hK _ _ ⟨rfl, rfl, rAll_back (A := nb3 A T) h (fun q hq => (h2 q hq).trans (h1 q hq))⟩
      · refine hK _ _ ?_
        clear hcl hax
        clear cl ax
        refine mCall_k (fun K hK => ?_)
        refine mCall_sem MX9_when rfl rfl (Or.inl ⟨rfl, rfl, rfl⟩) rfl (mSem_wp MX9_when rfl aX9_when 300 [44] (fun cl ax hcl hax => ?_))
        refine hcl _ _ _ _ (w_isSet (A := cnt1 (LA (nb3 A T) R w2) 3) k12 hm.2.2.1 (fun _ => ?_) (fun c0 => absurd a1 c0))
        refine ⟨fun _ => ?_, fun h9 => absurd h9 (by decide)⟩
        refine hcl _ _ _ _ (w_X9_isTooLate (y := A 75 1) rfl (fun c0 => absurd c0 c) (fun _ => ?_))
        refine ⟨fun _ => ?_, fun h9 => absurd h9 (by decide)⟩
        refine hcl _ _ _ _ (w_copy75_77 (A := cnt1 (LA (nb3 A T) R w2) 3) (fun R1 h1 => ?_))
        have e : va_up (va_up (cnt1 (LA (nb3 A T) R w2) 3) 77 R1) 75 (A 75) = va_up (cnt1 (LA (nb3 A T) R w2) 3) 77 R1 := by
          funext q
          unfold va_up
          split
          · rename_i c; rw [c]; rfl
          · rfl
        have this := lp_X9_when (E := E) (d := 4) (K := K) (s := v) (A := va_up (cnt1 (LA (nb3 A T) R w2) 3) 77 R1) (A0 := cnt1 (LA (nb3 A T) R w2) 3) (B := B) hm hb (fun i i1 i2 i3 N R2 h2 => absurd i3 (n2 i i1)) (fun i2 N R2 h2 => ?_) (0, A 75) ⟨by omega, YR_0 k t _, fun m hm => absurd hm (by simp)⟩
        · rw [e] at this
          exact hax _ _ _ _ this
        · exact hK _ _ ⟨rfl, rfl, rAll_backc (A := nb3 A T) h (fun q hq => (h2 q hq).trans (h1 q hq)) (by decide)⟩
  · refine ⟨fun h9 => absurd h9 (by decide), fun _ => ?_⟩
    refine hcl _ _ _ _ (w_X8_refuse 0 (by decide) (by decide) ?_)
    refine hK _ _ ?_
    clear hcl hax
    clear cl ax
    refine mCall_k (fun K hK => ?_)
    refine mCall_sem MX9_when rfl rfl (Or.inl ⟨rfl, rfl, rfl⟩) rfl (mSem_wp MX9_when rfl aX9_when 300 [] (fun cl ax hcl hax => ?_))
    refine hcl _ _ _ _ (w_isSet (A := cnt1 A 0) k12 hm.2.2.1 (fun c0 => absurd c0 a0) (fun _ => ?_))
    refine ⟨fun h9 => absurd h9 (by decide), fun _ => ?_⟩
    exact hcl _ _ _ _ (w_X9_finding 0 (by decide) (by decide) (hK _ _ (rEnd_cnt h (by decide))))
