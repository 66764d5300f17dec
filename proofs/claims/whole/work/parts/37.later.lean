/-! THE LATER HOUSES -/
def LA (A : Nat → Nat → Int32) (R : Nat → Int32) (v : (Nat → Int32) × (Nat → Int32) × (Nat → Int32) × (Nat → Int32) × (Nat → Int32)) : Nat → Nat → Int32 := nb5 (va_up A 35 R) 36 37 38 39 40 v
theorem LA_up {A : Nat → Nat → Int32} {R F G : Nat → Int32} {v : (Nat → Int32) × (Nat → Int32) × (Nat → Int32) × (Nat → Int32) × (Nat → Int32)} : va_up (va_up (LA A R v) 38 F) 40 G = LA A R (v.1, v.2.1, F, v.2.2.2.1, G) := by
  funext q
  unfold LA nb5 va_up
  by_cases h1 : q = 40
  · simp [h1]
  by_cases h2 : q = 38
  · simp [h2]
  by_cases h3 : q = 39
  · simp [h3]
  by_cases h4 : q = 37
  · simp [h4]
  by_cases h5 : q = 36
  · simp [h5]
  simp [h1, h2, h3, h4, h5]
def LI (k n : Nat) (mask : Int32) (A : Nat → Nat → Int32) (R : Nat → Int32) (v : (Nat → Int32) × (Nat → Int32) × (Nat → Int32) × (Nat → Int32) × (Nat → Int32)) : Prop := R 0 = nI k ∧ (∀ j, j < k → v.1 j = A 5 j ∧ v.2.1 j = A 6 j ∧ v.2.2.2.1 j = A 8 j) ∧ ∀ j, j < k → ¬ (mask >>> (nI j &&& 31)) &&& 1 = 0 → (v.2.2.1 j, v.2.2.2.2 j) = TR (A 75) j n
theorem w_later {E : ME} {d : Nat} {A : Nat → Nat → Int32} {B : Nat → Nat → Int64} {K : MK} {k t n : Nat} {mask : Int32} {R : Nat → Int32} {v : (Nat → Int32) × (Nat → Int32) × (Nat → Int32) × (Nat → Int32) × (Nat → Int32)} {y : Int32} (hm : hM k t (A 75)) (h : rNow A) (hv : LI k n mask A R v) (hy : y = A 75 1 + nI n) (hK : ∀ c v, LI k (n + 1) mask A R v → K (some (.int c)) (SH, LA A R v, B)) : mCall E (d + 4) nX1_goYear [.ref 35, .ref 2, .int y, .int mask] (SH, LA A R v, B) K := by
  have hh := rH h hm.2.2.1 hm.1
  obtain ⟨v1, v2, v3⟩ := hv
  refine w_goYear35 (A := LA A R v) hm.1 v1 (fun i hi => ?_) (fun i => sm (A 75) i (A 75 1 + nI n)) (fun i hi => ?_) (fun F G hFG => ?_)
  · show 0 ≤ v.2.1 i ∧ v.2.1 i ≤ 8
    rw [(v2 i hi).2.1, (hh i hi).1.2.1]
    exact (hh i hi).2.2.1
  · show sm (A 75) i (A 75 1 + nI n) = SD (A 2 1) (A 3) (v.1 i) (v.2.1 i) (v.2.2.2.1 i) y
    rw [(v2 i hi).1, (v2 i hi).2.1, (v2 i hi).2.2, hy, smX h hm.2.2.1 hm.1 hi]
  · rw [LA_up]
    refine hK _ _ ⟨v1, v2, fun j hj hb => ?_⟩
    have q : (F j, G j) = st1 (A 2 0) (sm (A 75) j (A 75 1 + nI n)) (v.2.2.1 j, v.2.2.2.2 j) := hFG j hj hb
    show (F j, G j) = _
    rw [q, v3 j hj hb, h.1.1.1]
    rfl
theorem w_takeL {E : ME} {d : Nat} {A : Nat → Nat → Int32} {B : Nat → Nat → Int64} {K : MK} {k t : Nat} (hm : hM k t (A 75)) (h : rNow A) (hx : A 4 0 = nI k) (hK : ∀ R v, (∀ mask, LI k 0 mask A R v) → K none (SH, LA A R v, B)) : mCall E d nX1_takeFrom [.ref 35, .ref 4] (SH, A, B) K := by
  have hh := rH h hm.2.2.1 hm.1
  refine w_take35_4 hm.1 hx (fun j hj => ?_) (fun v hv => ?_)
  · rw [(hh j hj).1.2.2.2.2]
    exact (hm.2.2.2.2.1 j hj).2
  · refine hK _ v (fun mask => ⟨?_, fun j hj => ?_, fun j hj _ => ?_⟩)
    · rw [ud_s]; exact hx
    · have := hv j hj
      exact ⟨this.1, this.2.1, this.2.2.2.1⟩
    · have := hv j hj
      refine Prod.ext ?_ ?_
      · exact this.2.2.1.trans (hh j hj).1.2.2.1
      · exact this.2.2.2.2.trans (hh j hj).1.2.2.2.2
theorem lp_look {E : ME} {d : Nat} {A A0 : Nat → Nat → Int32} {B : Nat → Nat → Int64} {K : MK} {k t n : Nat} {mask : Int32} {R : Nat → Int32} (hn : n ≤ 1000) (hm : hM k t (A 75)) (h : rNow A) (hK : ∀ v, LI k n mask A R v → K none (SH, LA A R v, B)) : ∀ v : Nat × (Nat → Int32) × (Nat → Int32) × (Nat → Int32) × (Nat → Int32) × (Nat → Int32), (v.1 ≤ n ∧ LI k v.1 mask A R v.2) → mSem E (d + 5) nX8_lookAhead (SH, A0, B) 0 0 K 16 [some (.ref 0), some (.int mask), some (.int (nI n)), some (.int (nI v.1))] [] (SH, LA A R v.2, B) := by
  refine mSem_loop (σ := Nat × (Nat → Int32) × (Nat → Int32) × (Nat → Int32) × (Nat → Int32) × (Nat → Int32)) (h0 := (SH, A0, B)) MX8_lookAhead rfl aX8_lookAhead 300 [16] (fun v => [some (.ref 0), some (.int mask), some (.int (nI n)), some (.int (nI v.1))]) (fun v => (SH, LA A R v.2, B)) (fun v => v.1 ≤ n ∧ LI k v.1 mask A R v.2) (fun v => n - v.1) ?_
  rintro ⟨j, v⟩ ⟨hj, hY⟩ cl ax hcl hax hlp
  have hj : j ≤ n := hj
  have hY : LI k j mask A R v := hY
  refine ⟨fun (c0 : nI n ≤ nI j) => ?_, fun (c0 : ¬ nI n ≤ nI j) => ?_⟩
  · rw [nI_leI (by omega) (by omega)] at c0
    have : j = n := by omega
    subst this
    exact hK v hY
  · rw [nI_leI (by omega) (by omega)] at c0
    refine hcl _ _ _ _ (w_later hm h hY (show A 2 2 + nI j = _ by rw [h.1.1.2.2]) (fun c v2 h2 => ?_))
    have this : ax 16 [some (.ref 0), some (.int mask), some (.int (nI n)), some (.int (nI (j + 1)))] [] (SH, LA A R v2, B) := hlp (j + 1, v2) ⟨by show j + 1 ≤ n; omega, h2⟩ (by show n - (j + 1) < n - j; omega)
    rw [← nI_1] at this
    exact this
theorem w_look {E : ME} {d : Nat} {A : Nat → Nat → Int32} {B : Nat → Nat → Int64} {K : MK} {k t n : Nat} {mask : Int32} (hn : n ≤ 1000) (hm : hM k t (A 75)) (h : rNow A) (hx : A 4 0 = nI k) (hK : ∀ R v, LI k n mask A R v → K none (SH, LA A R v, B)) : mCall E (d + 5) nX8_lookAhead [.ref 0, .int mask, .int (nI n)] (SH, A, B) K := by
  refine mCall_sem MX8_lookAhead rfl rfl (Or.inl ⟨rfl, rfl, rfl⟩) rfl (mSem_wp MX8_lookAhead rfl aX8_lookAhead 300 [16] (fun cl ax hcl hax => ?_))
  refine hcl _ _ _ _ (w_takeL hm h hx (fun R v hv => ?_))
  exact hax _ _ _ _ (lp_look hn hm h (hK R) (0, v) ⟨by omega, hv mask⟩)
theorem mb1 : ∀ j, j < 12 → ¬ (((1 : Int32) <<< (nI j &&& 31)) >>> (nI j &&& 31)) &&& 1 = 0 := by decide
theorem rAll_back {A : Nat → Nat → Int32} {B : Nat → Nat → Int64} (h : rAll A B) {R R1 N R2 : Nat → Int32} {v : (Nat → Int32) × (Nat → Int32) × (Nat → Int32) × (Nat → Int32) × (Nat → Int32)} (hR : ∀ q, q < 135 → R2 q = A 75 q) : rAll (va_up (va_up (va_up (LA A R v) 77 R1) 75 N) 75 R2) B := by
  obtain ⟨⟨hi, hh, hd, hs⟩, hk9, hf, ht, hsh⟩ := h
  exact ⟨⟨rIce_c hi rfl rfl (fun q hq => hR q (by omega)), rHou_c hh rfl rfl rfl rfl rfl rfl (fun q hq => hR q (by omega)), rDee_c hd rfl rfl rfl (fun q hq => hR q (by omega)), rSta_c hs rfl rfl rfl rfl rfl (fun q hq => hR q (by omega))⟩, hk9, hf, ht, hsh⟩
theorem rAll_backc {A : Nat → Nat → Int32} {B : Nat → Nat → Int64} (h : rAll A B) {R R1 N R2 : Nat → Int32} {v : (Nat → Int32) × (Nat → Int32) × (Nat → Int32) × (Nat → Int32) × (Nat → Int32)} (hR : ∀ q, q < 135 → R2 q = A 75 q) {i : Nat} (hi : i < 7) : rAll (cnt2 (va_up (va_up (va_up (cnt1 (LA A R v) i) 77 R1) 75 N) 75 R2) i) B := by
  have hc := (rAll_cnt h hi).2.2.1
  obtain ⟨⟨hi, hh, hd, hs⟩, hk9, hf, ht, hsh⟩ := h
  exact ⟨⟨rIce_c hi rfl rfl (fun q hq => hR q (by omega)), rHou_c hh rfl rfl rfl rfl rfl rfl (fun q hq => hR q (by omega)), rDee_c hd rfl rfl rfl (fun q hq => hR q (by omega)), rSta_c hs rfl rfl rfl rfl rfl (fun q hq => hR q (by omega))⟩, hk9, hc, ht, hsh⟩
theorem op_ahead {E : ME} {v u : Int32} {A : Nat → Nat → Int32} {B : Nat → Nat → Int64} (h : rAll A B) : rOp E nX8_ahead nX9_ahead [.int v, .int u] A B := by
  obtain ⟨k, t, hm, hx, hx2⟩ := hM_of h.1
  have hy : A 2 2 = A 75 1 := h.1.1.1.2.2
  have k12 := hm.1
  refine rOp_of (fun K hK => ?_)
  refine mCall_sem MX8_ahead rfl rfl (Or.inl ⟨rfl, rfl, rfl⟩) rfl (mSem_wp MX8_ahead rfl aX8_ahead 300 [] (fun cl ax hcl hax => ?_))
  refine hcl _ _ _ _ (w_X8_isHouse hx (fun a1 a2 => ?_) (fun a0 => ?_))
  · refine ⟨fun h9 => absurd h9 (by decide), fun _ => ?_⟩
    refine hcl _ _ _ _ (w_X8 (fun b1 b2 => ?_) (fun b0 => ?_))
    · refine ⟨fun _ => ?_, fun h9 => absurd h9 (by decide)⟩
      obtain ⟨j, hj, rfl⟩ := ho_ix k12 a1 a2
      obtain ⟨n, hn, rfl⟩ := ix_le 200 b1 b2 rfl
      have e8 : (nI j).toNatClampNeg = j := nI_clamp (by omega)
      refine hcl _ _ _ _ (w_X8_isPast (y := A 75 1) hy (fun c => ?_) (fun c => ?_))
      · refine ⟨fun h9 => absurd h9 (by decide), fun _ => ?_⟩
        refine hcl _ _ _ _ (w_X8_refuse 4 (by decide) (by decide) ?_)
        refine hK _ _ ?_
        clear hcl hax
        clear cl ax
        refine mCall_k (fun K hK => ?_)
        refine mCall_sem MX9_ahead rfl rfl (Or.inl ⟨rfl, rfl, rfl⟩) rfl (mSem_wp MX9_ahead rfl aX9_ahead 300 [] (fun cl ax hcl hax => ?_))
        refine hcl _ _ _ _ (w_X9_isHouse (n := nI k) hm.2.2.1 (fun _ _ => ?_) (fun c0 => absurd (And.intro a1 a2) c0))
        refine ⟨fun h9 => absurd h9 (by decide), fun _ => ?_⟩
        refine hcl _ _ _ _ (w_X9 (fun _ _ => ?_) (fun c0 => absurd (And.intro b1 b2) c0))
        refine ⟨fun _ => ?_, fun h9 => absurd h9 (by decide)⟩
        refine hcl _ _ _ _ (w_X9_isTooLate (y := A 75 1) rfl (fun _ => ?_) (fun c0 => absurd c c0))
        refine ⟨fun h9 => absurd h9 (by decide), fun _ => ?_⟩
        exact hcl _ _ _ _ (w_X9_finding 4 (by decide) (by decide) (hK _ _ (rEnd_cnt h (by decide))))
      · refine ⟨fun _ => ?_, fun h9 => absurd h9 (by decide)⟩
        refine hcl _ _ _ _ (w_look (by omega) hm h.1 hx (fun R w hw => ?_))
        have q : w.2.2.1 j = (TR (A 75) j n).1 := congrArg Prod.fst (hw.2.2 j hj (mb1 j (by omega)))
        refine ⟨vp_in_nI (N := 12) (by omega) (by decide), ?_⟩
        refine hK _ _ ?_
        clear hcl hax
        clear cl ax
        refine mCall_k (fun K hK => ?_)
        refine mCall_sem MX9_ahead rfl rfl (Or.inl ⟨rfl, rfl, rfl⟩) rfl (mSem_wp MX9_ahead rfl aX9_ahead 300 [] (fun cl ax hcl hax => ?_))
        refine hcl _ _ _ _ (w_X9_isHouse (n := nI k) hm.2.2.1 (fun _ _ => ?_) (fun c0 => absurd (And.intro a1 a2) c0))
        refine ⟨fun h9 => absurd h9 (by decide), fun _ => ?_⟩
        refine hcl _ _ _ _ (w_X9 (fun _ _ => ?_) (fun c0 => absurd (And.intro b1 b2) c0))
        refine ⟨fun _ => ?_, fun h9 => absurd h9 (by decide)⟩
        refine hcl _ _ _ _ (w_X9_isTooLate (y := A 75 1) rfl (fun c0 => absurd c0 c) (fun _ => ?_))
        refine ⟨fun _ => ?_, fun h9 => absurd h9 (by decide)⟩
        refine hcl _ _ _ _ (w_copy75_77 (A := LA A R w) (fun R1 h1 => ?_))
        refine hcl _ _ _ _ (w_yearsGo (A := va_up (LA A R w) 77 R1) (by omega) hm (fun N hN => ?_))
        refine hcl _ _ _ _ (w_houseIs (17 + 5 * j) (by omega) (hIx j 2 _ (by omega)) ?_)
        refine hcl _ _ _ _ (w_putBack (A := va_up (va_up (LA A R w) 77 R1) 75 N) (fun R2 h2 => ?_))
        refine hK _ _ ⟨?_, rfl, rAll_back h (fun q hq => (h2 q hq).trans (h1 q hq))⟩
        show some (Value.int (w.2.2.1 (nI j).toNatClampNeg)) = some (Value.int (N (17 + 5 * j)))
        rw [e8, q, show N (17 + 5 * j) = (TR (A 75) j n).1 from congrArg Prod.fst (hN.2.2.1 j hj)]
    · refine ⟨fun h9 => absurd h9 (by decide), fun _ => ?_⟩
      refine hcl _ _ _ _ (w_X8_refuse 0 (by decide) (by decide) ?_)
      refine hK _ _ ?_
      clear hcl hax
      clear cl ax
      refine mCall_k (fun K hK => ?_)
      refine mCall_sem MX9_ahead rfl rfl (Or.inl ⟨rfl, rfl, rfl⟩) rfl (mSem_wp MX9_ahead rfl aX9_ahead 300 [] (fun cl ax hcl hax => ?_))
      refine hcl _ _ _ _ (w_X9_isHouse (n := nI k) hm.2.2.1 (fun _ _ => ?_) (fun c0 => absurd (And.intro a1 a2) c0))
      refine ⟨fun h9 => absurd h9 (by decide), fun _ => ?_⟩
      refine hcl _ _ _ _ (w_X9 (fun c1 c2 => absurd (And.intro c1 c2) b0) (fun _ => ?_))
      refine ⟨fun h9 => absurd h9 (by decide), fun _ => ?_⟩
      exact hcl _ _ _ _ (w_X9_finding 0 (by decide) (by decide) (hK _ _ (rEnd_cnt h (by decide))))
  · refine ⟨fun _ => ?_, fun h9 => absurd h9 (by decide)⟩
    refine hcl _ _ _ _ (w_X8_refuse 0 (by decide) (by decide) ?_)
    refine hK _ _ ?_
    clear hcl hax
    clear cl ax
    refine mCall_k (fun K hK => ?_)
    refine mCall_sem MX9_ahead rfl rfl (Or.inl ⟨rfl, rfl, rfl⟩) rfl (mSem_wp MX9_ahead rfl aX9_ahead 300 [] (fun cl ax hcl hax => ?_))
    refine hcl _ _ _ _ (w_X9_isHouse (n := nI k) hm.2.2.1 (fun c1 c2 => absurd (And.intro c1 c2) a0) (fun _ => ?_))
    refine ⟨fun _ => ?_, fun h9 => absurd h9 (by decide)⟩
    exact hcl _ _ _ _ (w_X9_finding 0 (by decide) (by decide) (hK _ _ (rEnd_cnt h (by decide))))
