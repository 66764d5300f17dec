/-! THE WHOLE TEXT -/
def txt (c : Nat → Int32) (k : Nat) : Nat → Nat → (Nat → Int32) → Nat → Bool × Nat × (Nat → Int32)
  | 0, _, V, _ => (false, 0, V)
  | f + 1, n, V, e => match (rdI c k V e).1.2 with
    | true => (false, tb c k (rdI c k V e).1.1, V)
    | false => if ts c k (rdI c k V e).1.1 = 0 then (true, n + 1, apI V (rdI c k V e).2) else
      if ts c k (rdI c k V e).1.1 = 3 ∧ c (tb c k (rdI c k V e).1.1) = 59 then txt c k f (n + 1) (apI V (rdI c k V e).2) (te c k (rdI c k V e).1.1) else (false, tb c k (rdI c k V e).1.1, V)
theorem mS_ge {c : Nat → Int32} {k : Nat} {s : Nat × Bool} {x : Bool} {e : Nat} (h : e ≤ s.1 ∧ s.1 ≤ k) : e ≤ (mS c k s x).1 ∧ (mS c k s x).1 ≤ k := by
  unfold mS
  have := tk_b c h.2
  split
  · exact h
  · exact ⟨by show e ≤ te c k s.1; omega, this.2.2.1⟩
theorem nS_ge {c : Nat → Int32} {k : Nat} {s : Nat × Bool} {lo hi : Int32} {e : Nat} (h : e ≤ s.1 ∧ s.1 ≤ k) : e ≤ (nS c k s lo hi).1 ∧ (nS c k s lo hi).1 ≤ k := mS_ge h
theorem wmL_ge {c : Nat → Int32} {k e : Nat} : ∀ (f : Nat) (s : Nat × Bool) (l z : Int32), e ≤ s.1 ∧ s.1 ≤ k → e ≤ (wmL c k f s l z).1.1 ∧ (wmL c k f s l z).1.1 ≤ k
  | 0, s, l, z, h => h
  | f + 1, s, l, z, h => by
    rw [wmL]
    split
    · exact wmL_ge f _ _ _ (nS_ge h)
    · exact h
theorem house_ge {c : Nat → Int32} {k e : Nat} {V : Nat → Int32} {kd : Int32} (he : e ≤ k) (h : (houseS c k V e kd).1.2 = false) : te c k e ≤ (houseS c k V e kd).1.1 ∧ (houseS c k V e kd).1.1 ≤ k := by
  have v3 := (house_ok h).1
  have h1 : te c k e ≤ (hk1 c k V e).1 ∧ (hk1 c k V e).1 ≤ k := by
    unfold hk1
    rw [decide_eq_true v3]
    exact ⟨Nat.le_refl _, (tk_b c he).2.2.1⟩
  have h4 : te c k e ≤ (hk4 c k V e).1 ∧ (hk4 c k V e).1 ≤ k := nS_ge (mS_ge (nS_ge h1))
  unfold houseS
  cases hkH c k V e with
  | true => exact nS_ge (mS_ge h4)
  | false => exact h4
/-- an item takes its word at least -/
theorem rd_ge {c : Nat → Int32} {k e : Nat} {V : Nat → Int32} (he : e ≤ k) (h : (rdI c k V e).1.2 = false) : e + 1 ≤ (rdI c k V e).1.1 ∧ (rdI c k V e).1.1 ≤ k := by
  have b := tk_b c he
  have fin : ∀ (w : List Int32) (r : (Nat × Bool) × Int32 × Int32 × Int32 × Int32 × Int32), WD c k e w → (te c k e ≤ r.1.1 ∧ r.1.1 ≤ k) → e + 1 ≤ r.1.1 ∧ r.1.1 ≤ k := fun w r hw q => by
    have t1 := hw.1
    omega
  have h1 : te c k e ≤ (mS c k (e, false) true).1 ∧ (mS c k (e, false) true).1 ≤ k := ⟨Nat.le_refl _, b.2.2.1⟩
  by_cases w0 : WD c k e w_house
  · rw [rd_house w0] at h ⊢; exact fin _ _ w0 (house_ge he h)
  by_cases w1 : WD c k e w_roped
  · rw [rd_roped w1] at h ⊢; exact fin _ _ w1 (house_ge he h)
  by_cases w2 : WD c k e w_sledge
  · rw [rd_sledge w2] at h ⊢; exact fin _ _ w2 (house_ge he h)
  by_cases w3 : WD c k e w_church
  · rw [rd_church w3] at h ⊢; exact fin _ _ w3 (house_ge he h)
  by_cases w4 : WD c k e w_ferry
  · rw [rd_ferry w4] at h ⊢; exact fin _ _ w4 (house_ge he h)
  by_cases w5 : WD c k e w_deep
  · rw [rd_deep w5] at h ⊢; exact fin _ _ w5 (house_ge he h)
  by_cases w6 : WD c k e w_edge
  · rw [rd_edge w6]; exact fin _ _ w6 (nS_ge h1)
  by_cases w7 : WD c k e w_pace
  · rw [rd_pace w7]; exact fin _ _ w7 (nS_ge (nS_ge h1))
  by_cases w8 : WD c k e w_warm
  · rw [rd_warm w8]; exact fin _ _ w8 (wmL_ge _ _ _ _ (nS_ge h1))
  by_cases w9 : WD c k e w_stake
  · rw [rd_stake w9] at h ⊢
    have v5 := (stake_ok h).1
    have s1 : te c k e ≤ (sk1 c k V e).1 ∧ (sk1 c k V e).1 ≤ k := by
      unfold sk1
      rw [decide_eq_true v5]
      exact h1
    exact fin _ _ w9 (nS_ge (mS_ge (nS_ge (mS_ge (nS_ge (mS_ge (nS_ge s1)))))))
  rw [rd_none w0 w1 w2 w3 w4 w5 w6 w7 w8 w9] at h
  cases h
/-- items that may be so -/
def VI (V : Nat → Int32) (it : Int32 × Int32 × Int32 × Int32 × Int32) : Prop := it.1 = 10 ∨ (it.1 = 11 ∧ 0 ≤ it.2.1 ∧ it.2.1 ≤ 8) ∨ it.1 = 12 ∨ (it.1 = 13 ∧ ∃ s, s < 10 ∧ V 5 = nI s) ∨ (0 ≤ it.1 ∧ it.1 ≤ 5 ∧ ∃ h, h < 12 ∧ V 3 = nI h)
theorem house_VI {c : Nat → Int32} {k e : Nat} {V : Nat → Int32} {kd : Int32} (hV : VB V) (q0 : 0 ≤ kd) (q5 : kd ≤ 5) (h : (houseS c k V e kd).1.2 = false) : VI V (houseS c k V e kd).2 ∧ VB (apI V (houseS c k V e kd).2) := by
  obtain ⟨v3, ln, ft, hd, e1, _⟩ := house_ok h
  obtain ⟨j, j12, ej⟩ := lt_h hV v3
  rw [e1]
  refine ⟨Or.inr (Or.inr (Or.inr (Or.inr ⟨q0, q5, j, j12, ej⟩))), ?_⟩
  rw [apI_house q0 q5 (by omega) ej]
  exact VB_house j12 hV
theorem rd_VI {c : Nat → Int32} {k e : Nat} {V : Nat → Int32} (hV : VB V) (h : (rdI c k V e).1.2 = false) : VI V (rdI c k V e).2 ∧ VB (apI V (rdI c k V e).2) := by
  by_cases w0 : WD c k e w_house
  · rw [rd_house w0] at h ⊢; exact house_VI hV (by decide) (by decide) h
  by_cases w1 : WD c k e w_roped
  · rw [rd_roped w1] at h ⊢; exact house_VI hV (by decide) (by decide) h
  by_cases w2 : WD c k e w_sledge
  · rw [rd_sledge w2] at h ⊢; exact house_VI hV (by decide) (by decide) h
  by_cases w3 : WD c k e w_church
  · rw [rd_church w3] at h ⊢; exact house_VI hV (by decide) (by decide) h
  by_cases w4 : WD c k e w_ferry
  · rw [rd_ferry w4] at h ⊢; exact house_VI hV (by decide) (by decide) h
  by_cases w5 : WD c k e w_deep
  · rw [rd_deep w5] at h ⊢; exact house_VI hV (by decide) (by decide) h
  by_cases w6 : WD c k e w_edge
  · rw [rd_edge w6]
    refine ⟨Or.inl rfl, ?_⟩
    unfold edgeS
    rw [apI_edge]
    exact VB_one hV (by omega)
  by_cases w7 : WD c k e w_pace
  · rw [rd_pace w7] at h ⊢
    obtain ⟨a1, a2, _⟩ := nS_ok h
    obtain ⟨b1, b2, _⟩ := nS_ok a1
    obtain ⟨_, l0, l8⟩ := nG_t.mp b2
    refine ⟨Or.inr (Or.inl ⟨rfl, l0, l8⟩), ?_⟩
    obtain ⟨l, hl, el⟩ := ix_le 8 l0 l8 rfl
    unfold paceS
    rw [el, apI_pace (by omega)]
    exact VB_one hV (by omega)
  by_cases w8 : WD c k e w_warm
  · rw [rd_warm w8]
    refine ⟨Or.inr (Or.inr (Or.inl rfl)), ?_⟩
    unfold warmS
    rw [apI_warm]
    exact VB_one hV (by omega)
  by_cases w9 : WD c k e w_stake
  · rw [rd_stake w9] at h ⊢
    obtain ⟨s, s10, es⟩ := lt_s5 hV (stake_ok h).1
    refine ⟨Or.inr (Or.inr (Or.inr (Or.inl ⟨rfl, s, s10, es⟩))), ?_⟩
    unfold stakeS
    rw [apI_stake (by omega) es]
    exact VB_stake s10 hV
  rw [rd_none w0 w1 w2 w3 w4 w5 w6 w7 w8 w9] at h
  cases h
/-! X reads the text -/
theorem tx_0 {c : Nat → Int32} {k e : Nat} (he : e ≤ k) : tx c k e = 0 ↔ ts c k e = 0 := by
  have h := (tk_b c he).2.2.2.1
  unfold tx
  split
  · rename_i q
    exact ⟨fun z => absurd z (by decide), fun z => by omega⟩
  · exact nI_eq (a := ts c k e) (b := 0) (by omega) (by decide)
theorem tx_3 {c : Nat → Int32} {k e : Nat} (he : e ≤ k) : tx c k e = 3 ↔ ts c k e = 3 ∧ c (tb c k e) = 59 := by
  have h := (tk_b c he).2.2.2.1
  unfold tx
  split
  · rename_i q
    exact ⟨fun z => absurd z (by decide), fun z => absurd z.2 q.2⟩
  · rename_i q
    have e1 : nI (ts c k e) = 3 ↔ ts c k e = 3 := nI_eq (a := ts c k e) (b := 3) (by omega) (by decide)
    rw [e1]
    refine ⟨fun z => ⟨z, ?_⟩, fun z => z.1⟩
    refine Classical.byContradiction (fun y => q ⟨z, y⟩)
theorem lp_text {E : ME} {d : Nat} {A A0 : Nat → Nat → Int32} {B : Nat → Nat → Int64} {K : MK} {c : Nat → Int32} {k : Nat} (hk : k ≤ 120) (hc : ∀ j, j < k → A 63 j = c j) (r : Bool × Nat × (Nat → Int32)) (k1 : r.1 = true → ∀ A', AG A A' → DR A' r.2.2 → K (some (.int (nI r.2.1))) (SH, A', B)) (k0 : r.1 = false → ∀ A', AG A A' → K (some (.int (-1 - nI r.2.1))) (SH, A', B)) : ∀ (f n e : Nat) (V : Nat → Int32) (A1 : Nat → Nat → Int32), e ≤ k → k < e + f → 2 * n ≤ e → AG A A1 → A1 45 0 = nI k → A1 45 5 = nI e → DR A1 V → txt c k f n V e = r → mSem E (d + 8) nX6_readText (SH, A0, B) 0 0 K 7 [some (.ref 45), some (.int (nI (n + 1)))] [] (SH, A1, B) := by
  intro f
  induction f with
  | zero => intro n e V A1 h1 h2; omega
  | succ f ih =>
    intro n e V A1 he hf hn ag h0 h5 hD hr
    have hc1 : ∀ j, j < k → A1 63 j = c j := fun j hj => by rw [ag 63 (by omega)]; exact hc j hj
    rw [txt] at hr
    refine mSem_wp MX6_readText rfl aX6_readText 300 [7] (fun cl ax hcl hax => ?_)
    refine ⟨fun (q : nI 120 < nI (n + 1)) => absurd ((nI_ltI (by omega) (by omega)).mp q) (by omega), fun _ => ?_⟩
    refine hcl _ _ _ _ (w_nextToken (A := A1) (c := c) hk he hc1 h0 h5 (fun F hF => ?_))
    refine hcl _ _ _ _ (w_readItem (A := va_up A1 45 F) (V := V) hk he hc1 hF hD ⟨fun ok A2 ag2 t2 d2 => ?_, fun bad A2 ag2 t2 => ?_⟩)
    · have ag3 : AG A A2 := AG_t (AG_u ag (by omega)) ag2
      obtain ⟨g1, g2⟩ := rd_ge he ok
      rw [ok] at hr
      have tbk := tk_b c g2
      refine ⟨fun _ => ?_, fun h9 => absurd h9 (by decide)⟩
      refine ⟨fun (q : ¬ A2 45 3 = 0) => ?_, fun (q : A2 45 3 = 0) => ?_⟩
      · rw [t2.2.1, tx_0 g2] at q
        have hr : (if ts c k (rdI c k V e).1.1 = 0 then (true, n + 1, apI V (rdI c k V e).2) else if ts c k (rdI c k V e).1.1 = 3 ∧ c (tb c k (rdI c k V e).1.1) = 59 then txt c k f (n + 1) (apI V (rdI c k V e).2) (te c k (rdI c k V e).1.1) else (false, tb c k (rdI c k V e).1.1, V)) = r := hr
        rw [if_neg q] at hr
        refine ⟨fun (q3 : A2 45 3 = 3) => ?_, fun (q3 : ¬ A2 45 3 = 3) => ?_⟩
        · rw [t2.2.1, tx_3 g2] at q3
          rw [if_pos q3] at hr
          have this := ih (n + 1) (te c k (rdI c k V e).1.1) (apI V (rdI c k V e).2) A2 tbk.2.2.1 (by omega) (by omega) ag3 t2.1 t2.2.2.2.1 d2 hr
          rw [← nI_1 (n + 1)] at this
          exact hax _ _ _ _ this
        · rw [t2.2.1, tx_3 g2] at q3
          rw [if_neg q3] at hr
          subst hr
          have this := k0 rfl A2 ag3
          have this : K (some (.int (-1 - nI (tb c k (rdI c k V e).1.1)))) (SH, A2, B) := this
          rw [← t2.2.2.1] at this
          exact this
      · rw [t2.2.1, tx_0 g2] at q
        have hr : (if ts c k (rdI c k V e).1.1 = 0 then (true, n + 1, apI V (rdI c k V e).2) else if ts c k (rdI c k V e).1.1 = 3 ∧ c (tb c k (rdI c k V e).1.1) = 59 then txt c k f (n + 1) (apI V (rdI c k V e).2) (te c k (rdI c k V e).1.1) else (false, tb c k (rdI c k V e).1.1, V)) = r := hr
        rw [if_pos q] at hr
        subst hr
        exact k1 rfl A2 ag3 d2
    · have ag3 : AG A A2 := AG_t (AG_u ag (by omega)) ag2
      rw [bad] at hr
      have hr : (false, tb c k (rdI c k V e).1.1, V) = r := hr
      subst hr
      refine ⟨fun h9 => absurd h9 (by decide), fun _ => ?_⟩
      have this := k0 rfl A2 ag3
      have this : K (some (.int (-1 - nI (tb c k (rdI c k V e).1.1)))) (SH, A2, B) := this
      rw [← t2.2.2.1] at this
      exact this
theorem w_readText {E : ME} {d : Nat} {A : Nat → Nat → Int32} {B : Nat → Nat → Int64} {K : MK} {c : Nat → Int32} {k : Nat} {V : Nat → Int32} (hk : k ≤ 120) (hc : ∀ j, j < k → A 63 j = c j) (h0 : A 45 0 = nI k) (hD : DR A V) (k1 : (txt c k 121 0 V 0).1 = true → ∀ A', AG A A' → DR A' (txt c k 121 0 V 0).2.2 → K (some (.int (nI (txt c k 121 0 V 0).2.1))) (SH, A', B)) (k0 : (txt c k 121 0 V 0).1 = false → ∀ A', AG A A' → K (some (.int (-1 - nI (txt c k 121 0 V 0).2.1))) (SH, A', B)) : mCall E (d + 8) nX6_readText [.ref 45] (SH, A, B) K := by
  refine mCall_sem MX6_readText rfl rfl (Or.inl ⟨rfl, rfl, rfl⟩) rfl (mSem_wp MX6_readText rfl aX6_readText 300 [7] (fun cl ax hcl hax => ?_))
  exact hax _ _ _ _ (lp_text (d := d) (A := A) (A0 := A) hk hc (txt c k 121 0 V 0) k1 k0 121 0 0 V (va_up A 45 (upd (A 45) 5 0)) (by omega) (by omega) (by omega) (AG_u AG_r (by omega)) h0 rfl hD rfl)
