/-! is it this word: X, the model -/
theorem lp_xw0 {E : ME} {d : Nat} {A : Nat → Nat → Int32} {B : Nat → Nat → Int64} {K : MK} {c : Nat → Int32} {k e : Nat} (hk : k ≤ 120) (he : e ≤ k) (hc : ∀ j, j < k → A 63 j = c j) (h4 : A 45 4 = nI (tb c k e)) (t1 : ts c k e = 1) (tl : te c k e - tb c k e = 4) (k1 : WD c k e w_edge → K (some (.int 1)) (SH, A, B)) (k0 : ¬ WD c k e w_edge → K (some (.int 0)) (SH, A, B)) : ∀ j, (j ≤ 4 ∧ ∀ i, i < j → c (tb c k e + i) = w_edge.getD i 0) → mSem E (d + 4) nX6_isWord (SH, A, B) 0 0 K 28 [some (.ref 45), some (.ref 1010), some (.int (nI j))] [] (SH, A, B) := by
  have hb := tk_b c he
  refine mSem_loop (h0 := (SH, A, B)) MX6_isWord rfl aX6_isWord 300 [28] (fun j => [some (.ref 45), some (.ref 1010), some (.int (nI j))]) (fun j => (SH, A, B)) (fun j => j ≤ 4 ∧ ∀ i, i < j → c (tb c k e + i) = w_edge.getD i 0) (fun j => 4 - j) ?_
  rintro j ⟨hj, hI⟩ cl ax hcl hax hlp
  refine hcl _ _ _ _ (w_len0 ?_)
  refine ⟨fun (c0 : nI 4 ≤ nI j) => ?_, fun (c0 : ¬ nI 4 ≤ nI j) => ?_⟩
  · rw [nI_leI (by omega) (by omega)] at c0
    exact ⟨rfl, k1 ⟨t1, tl, fun i hi => hI i (by have hi : i < 4 := hi; omega)⟩⟩
  · rw [nI_leI (by omega) (by omega)] at c0
    have ei : A 45 4 + nI j = nI (tb c k e + j) := by rw [h4, nI_add]
    have e8 : (A 45 4 + nI j).toNatClampNeg = tb c k e + j := by rw [ei]; exact nI_clamp (by omega)
    refine ⟨show vp_in (A 45 4 + nI j) 120 by rw [ei]; exact vp_in_nI (by omega) (by decide), ?_⟩
    refine hcl _ _ _ _ (w_char0 j (by omega) ?_)
    have ec : A 63 (A 45 4 + nI j).toNatClampNeg = c (tb c k e + j) := by rw [e8]; exact hc _ (by omega)
    refine ⟨fun (c1 : A 63 (A 45 4 + nI j).toNatClampNeg = w_edge.getD j 0) => ?_, fun (c1 : ¬ A 63 (A 45 4 + nI j).toNatClampNeg = w_edge.getD j 0) => ?_⟩
    · rw [ec] at c1
      have this : ax 28 [some (.ref 45), some (.ref 1010), some (.int (nI (j + 1)))] [] (SH, A, B) := hlp (j + 1) ⟨by omega, fun i hi => by
        by_cases q : i = j
        · rw [q]; exact c1
        · exact hI i (by omega)⟩ (by omega)
      rw [← nI_1] at this
      exact this
    · rw [ec] at c1
      exact ⟨rfl, k0 (fun q => c1 (q.2.2 j (by show j < 4; omega)))⟩
theorem w_xw0 {E : ME} {d : Nat} {A : Nat → Nat → Int32} {B : Nat → Nat → Int64} {K : MK} {c : Nat → Int32} {k e : Nat} (hk : k ≤ 120) (he : e ≤ k) (hc : ∀ j, j < k → A 63 j = c j) (hT : TX c k (A 45) e) (k1 : WD c k e w_edge → K (some (.int 1)) (SH, A, B)) (k0 : ¬ WD c k e w_edge → K (some (.int 0)) (SH, A, B)) : mCall E (d + 4) nX6_isWord [.ref 45, .ref 1010] (SH, A, B) K := by
  obtain ⟨_, h3, h4, h5, _⟩ := hT
  have hb := tk_b c he
  refine mCall_sem MX6_isWord rfl rfl (Or.inl ⟨rfl, rfl, rfl⟩) rfl (mSem_wp MX6_isWord rfl aX6_isWord 300 [28] (fun cl ax hcl hax => ?_))
  refine ⟨fun (c0 : ¬ A 45 3 = 1) => ⟨rfl, k0 (fun q => c0 (by rw [h3]; exact (tx_1 he).mpr q.1))⟩, fun (c0 : A 45 3 = 1) => ?_⟩
  rw [h3, tx_1 he] at c0
  refine hcl _ _ _ _ (w_len0 ?_)
  have el : A 45 5 - A 45 4 = nI (te c k e - tb c k e) := by rw [h5, h4, pk_sub (by omega)]
  refine ⟨fun (c1 : A 45 5 - A 45 4 = nI 4) => ?_, fun (c1 : ¬ A 45 5 - A 45 4 = nI 4) => ⟨rfl, k0 (fun q => c1 (by rw [el, q.2.1]; rfl))⟩⟩
  rw [el, nI_eq (by omega) (by omega)] at c1
  exact hax _ _ _ _ (lp_xw0 (d := d) hk he hc h4 c0 c1 k1 k0 0 ⟨by omega, fun i hi => by omega⟩)
theorem lp_mw23 {E : ME} {d : Nat} {A : Nat → Nat → Int32} {B : Nat → Nat → Int64} {K : MK} {c : Nat → Int32} {k e : Nat} (hk : k ≤ 120) (he : e ≤ k) (hc : ∀ j, j < k → A 79 j = c j) (h7 : A 74 7 = nI (tb c k e)) (k1 : WD c k e w_edge → K (some (.int 1)) (SH, A, B)) (k0 : ¬ WD c k e w_edge → K (some (.int 0)) (SH, A, B)) : ∀ p : Nat × Int32, (p.1 ≤ 4 ∧ ((p.2 = 1 ∧ ts c k e = 1 ∧ te c k e - tb c k e = 4 ∧ ∀ i, i < p.1 → c (tb c k e + i) = w_edge.getD i 0) ∨ (p.2 = 0 ∧ ¬ WD c k e w_edge))) → mSem E (d + 4) nX9_isWord (SH, A, B) 0 0 K 32 [some (.ref 74), some (.ref 1033), some (.int p.2), some (.int (nI p.1))] [] (SH, A, B) := by
  have hb := tk_b c he
  refine mSem_loop (σ := Nat × Int32) (h0 := (SH, A, B)) MX9_isWord rfl aX9_isWord 300 [32] (fun p => [some (.ref 74), some (.ref 1033), some (.int p.2), some (.int (nI p.1))]) (fun p => (SH, A, B)) (fun p => p.1 ≤ 4 ∧ ((p.2 = 1 ∧ ts c k e = 1 ∧ te c k e - tb c k e = 4 ∧ ∀ i, i < p.1 → c (tb c k e + i) = w_edge.getD i 0) ∨ (p.2 = 0 ∧ ¬ WD c k e w_edge))) (fun p => 4 - p.1) ?_
  rintro ⟨j, z⟩ ⟨hj, hI⟩ cl ax hcl hax hlp
  have hj : j ≤ 4 := hj
  refine hcl _ _ _ _ (w_len23 ?_)
  rcases hI with ⟨z1, t1, tl, hI⟩ | ⟨z0, nw⟩
  · have z1 : z = 1 := z1
    subst z1
    have hI : ∀ i, i < j → c (tb c k e + i) = w_edge.getD i 0 := hI
    refine ⟨fun (c0 : nI 4 ≤ nI j) => ?_, fun (c0 : ¬ nI 4 ≤ nI j) => ?_⟩
    · rw [nI_leI (by omega) (by omega)] at c0
      exact ⟨show narrow .boolean (.int 1) = .int 1 from rfl, k1 ⟨t1, tl, fun i hi => hI i (by have hi : i < 4 := hi; omega)⟩⟩
    · rw [nI_leI (by omega) (by omega)] at c0
      refine ⟨fun (h9 : (1 : Int32) = 0) => absurd h9 (by decide), fun _ => ?_⟩
      have ei : A 74 7 + nI j = nI (tb c k e + j) := by rw [h7, nI_add]
      have e8 : (A 74 7 + nI j).toNatClampNeg = tb c k e + j := by rw [ei]; exact nI_clamp (by omega)
      refine ⟨show vp_in (A 74 7 + nI j) 120 by rw [ei]; exact vp_in_nI (by omega) (by decide), ?_⟩
      refine hcl _ _ _ _ (w_char23 j (by omega) ?_)
      have ec : A 79 (A 74 7 + nI j).toNatClampNeg = c (tb c k e + j) := by rw [e8]; exact hc _ (by omega)
      refine ⟨fun (c1 : ¬ A 79 (A 74 7 + nI j).toNatClampNeg = w_edge.getD j 0) => ?_, fun (c1 : A 79 (A 74 7 + nI j).toNatClampNeg = w_edge.getD j 0) => ?_⟩
      · rw [ec] at c1
        have this : ax 32 [some (.ref 74), some (.ref 1033), some (.int 0), some (.int (nI (j + 1)))] [] (SH, A, B) := hlp (j + 1, 0) ⟨by show j + 1 ≤ 4; omega, Or.inr ⟨rfl, fun q => c1 (q.2.2 j (by show j < 4; omega))⟩⟩ (by show 4 - (j + 1) < 4 - j; omega)
        rw [← nI_1] at this
        exact this
      · rw [ec] at c1
        have this : ax 32 [some (.ref 74), some (.ref 1033), some (.int 1), some (.int (nI (j + 1)))] [] (SH, A, B) := hlp (j + 1, 1) ⟨by show j + 1 ≤ 4; omega, Or.inl ⟨rfl, t1, tl, fun i hi => by
          have hi : i < j + 1 := hi
          by_cases q : i = j
          · rw [q]; exact c1
          · exact hI i (by omega)⟩⟩ (by show 4 - (j + 1) < 4 - j; omega)
        rw [← nI_1] at this
        exact this
  · have z0 : z = 0 := z0
    subst z0
    refine ⟨fun _ => ⟨show narrow .boolean (.int 0) = .int 0 from rfl, k0 nw⟩, fun _ => ?_⟩
    refine ⟨fun _ => ?_, fun (h9 : ¬ (0 : Int32) = 0) => absurd rfl h9⟩
    exact ⟨show narrow .boolean (.int 0) = .int 0 from rfl, k0 nw⟩
theorem w_mw23 {E : ME} {d : Nat} {A : Nat → Nat → Int32} {B : Nat → Nat → Int64} {K : MK} {c : Nat → Int32} {k e : Nat} (hk : k ≤ 120) (he : e ≤ k) (hc : ∀ j, j < k → A 79 j = c j) (h7 : A 74 7 = nI (tb c k e)) (h8 : A 74 8 = nI (te c k e)) (h9 : A 74 9 = nI (ts c k e)) (k1 : WD c k e w_edge → K (some (.int 1)) (SH, A, B)) (k0 : ¬ WD c k e w_edge → K (some (.int 0)) (SH, A, B)) : mCall E (d + 4) nX9_isWord [.ref 74, .ref 1033] (SH, A, B) K := by
  have hb := tk_b c he
  refine mCall_sem MX9_isWord rfl rfl (Or.inl ⟨rfl, rfl, rfl⟩) rfl (mSem_wp MX9_isWord rfl aX9_isWord 300 [32] (fun cl ax hcl hax => ?_))
  refine ⟨fun (c0 : ¬ A 74 9 = nI 1) => ?_, fun (c0 : A 74 9 = nI 1) => ?_⟩
  · rw [h9, nI_eq (by omega) (by omega)] at c0
    exact hax _ _ _ _ (lp_mw23 (d := d) hk he hc h7 k1 k0 (0, 0) ⟨by omega, Or.inr ⟨rfl, fun q => c0 q.1⟩⟩)
  rw [h9, nI_eq (by omega) (by omega)] at c0
  refine hcl _ _ _ _ (w_len23 ?_)
  have el : A 74 8 - A 74 7 = nI (te c k e - tb c k e) := by rw [h8, h7, pk_sub (by omega)]
  refine ⟨fun (c1 : ¬ A 74 8 - A 74 7 = nI 4) => ?_, fun (c1 : A 74 8 - A 74 7 = nI 4) => ?_⟩
  · rw [el, nI_eq (by omega) (by omega)] at c1
    exact hax _ _ _ _ (lp_mw23 (d := d) hk he hc h7 k1 k0 (0, 0) ⟨by omega, Or.inr ⟨rfl, fun q => c1 q.2.1⟩⟩)
  · rw [el, nI_eq (by omega) (by omega)] at c1
    exact hax _ _ _ _ (lp_mw23 (d := d) hk he hc h7 k1 k0 (0, 1) ⟨by omega, Or.inl ⟨rfl, c0, c1, fun i hi => absurd hi (by simp)⟩⟩)
theorem lp_xw1 {E : ME} {d : Nat} {A : Nat → Nat → Int32} {B : Nat → Nat → Int64} {K : MK} {c : Nat → Int32} {k e : Nat} (hk : k ≤ 120) (he : e ≤ k) (hc : ∀ j, j < k → A 63 j = c j) (h4 : A 45 4 = nI (tb c k e)) (t1 : ts c k e = 1) (tl : te c k e - tb c k e = 4) (k1 : WD c k e w_pace → K (some (.int 1)) (SH, A, B)) (k0 : ¬ WD c k e w_pace → K (some (.int 0)) (SH, A, B)) : ∀ j, (j ≤ 4 ∧ ∀ i, i < j → c (tb c k e + i) = w_pace.getD i 0) → mSem E (d + 4) nX6_isWord (SH, A, B) 0 0 K 28 [some (.ref 45), some (.ref 1011), some (.int (nI j))] [] (SH, A, B) := by
  have hb := tk_b c he
  refine mSem_loop (h0 := (SH, A, B)) MX6_isWord rfl aX6_isWord 300 [28] (fun j => [some (.ref 45), some (.ref 1011), some (.int (nI j))]) (fun j => (SH, A, B)) (fun j => j ≤ 4 ∧ ∀ i, i < j → c (tb c k e + i) = w_pace.getD i 0) (fun j => 4 - j) ?_
  rintro j ⟨hj, hI⟩ cl ax hcl hax hlp
  refine hcl _ _ _ _ (w_len1 ?_)
  refine ⟨fun (c0 : nI 4 ≤ nI j) => ?_, fun (c0 : ¬ nI 4 ≤ nI j) => ?_⟩
  · rw [nI_leI (by omega) (by omega)] at c0
    exact ⟨rfl, k1 ⟨t1, tl, fun i hi => hI i (by have hi : i < 4 := hi; omega)⟩⟩
  · rw [nI_leI (by omega) (by omega)] at c0
    have ei : A 45 4 + nI j = nI (tb c k e + j) := by rw [h4, nI_add]
    have e8 : (A 45 4 + nI j).toNatClampNeg = tb c k e + j := by rw [ei]; exact nI_clamp (by omega)
    refine ⟨show vp_in (A 45 4 + nI j) 120 by rw [ei]; exact vp_in_nI (by omega) (by decide), ?_⟩
    refine hcl _ _ _ _ (w_char1 j (by omega) ?_)
    have ec : A 63 (A 45 4 + nI j).toNatClampNeg = c (tb c k e + j) := by rw [e8]; exact hc _ (by omega)
    refine ⟨fun (c1 : A 63 (A 45 4 + nI j).toNatClampNeg = w_pace.getD j 0) => ?_, fun (c1 : ¬ A 63 (A 45 4 + nI j).toNatClampNeg = w_pace.getD j 0) => ?_⟩
    · rw [ec] at c1
      have this : ax 28 [some (.ref 45), some (.ref 1011), some (.int (nI (j + 1)))] [] (SH, A, B) := hlp (j + 1) ⟨by omega, fun i hi => by
        by_cases q : i = j
        · rw [q]; exact c1
        · exact hI i (by omega)⟩ (by omega)
      rw [← nI_1] at this
      exact this
    · rw [ec] at c1
      exact ⟨rfl, k0 (fun q => c1 (q.2.2 j (by show j < 4; omega)))⟩
theorem w_xw1 {E : ME} {d : Nat} {A : Nat → Nat → Int32} {B : Nat → Nat → Int64} {K : MK} {c : Nat → Int32} {k e : Nat} (hk : k ≤ 120) (he : e ≤ k) (hc : ∀ j, j < k → A 63 j = c j) (hT : TX c k (A 45) e) (k1 : WD c k e w_pace → K (some (.int 1)) (SH, A, B)) (k0 : ¬ WD c k e w_pace → K (some (.int 0)) (SH, A, B)) : mCall E (d + 4) nX6_isWord [.ref 45, .ref 1011] (SH, A, B) K := by
  obtain ⟨_, h3, h4, h5, _⟩ := hT
  have hb := tk_b c he
  refine mCall_sem MX6_isWord rfl rfl (Or.inl ⟨rfl, rfl, rfl⟩) rfl (mSem_wp MX6_isWord rfl aX6_isWord 300 [28] (fun cl ax hcl hax => ?_))
  refine ⟨fun (c0 : ¬ A 45 3 = 1) => ⟨rfl, k0 (fun q => c0 (by rw [h3]; exact (tx_1 he).mpr q.1))⟩, fun (c0 : A 45 3 = 1) => ?_⟩
  rw [h3, tx_1 he] at c0
  refine hcl _ _ _ _ (w_len1 ?_)
  have el : A 45 5 - A 45 4 = nI (te c k e - tb c k e) := by rw [h5, h4, pk_sub (by omega)]
  refine ⟨fun (c1 : A 45 5 - A 45 4 = nI 4) => ?_, fun (c1 : ¬ A 45 5 - A 45 4 = nI 4) => ⟨rfl, k0 (fun q => c1 (by rw [el, q.2.1]; rfl))⟩⟩
  rw [el, nI_eq (by omega) (by omega)] at c1
  exact hax _ _ _ _ (lp_xw1 (d := d) hk he hc h4 c0 c1 k1 k0 0 ⟨by omega, fun i hi => by omega⟩)
theorem lp_mw24 {E : ME} {d : Nat} {A : Nat → Nat → Int32} {B : Nat → Nat → Int64} {K : MK} {c : Nat → Int32} {k e : Nat} (hk : k ≤ 120) (he : e ≤ k) (hc : ∀ j, j < k → A 79 j = c j) (h7 : A 74 7 = nI (tb c k e)) (k1 : WD c k e w_pace → K (some (.int 1)) (SH, A, B)) (k0 : ¬ WD c k e w_pace → K (some (.int 0)) (SH, A, B)) : ∀ p : Nat × Int32, (p.1 ≤ 4 ∧ ((p.2 = 1 ∧ ts c k e = 1 ∧ te c k e - tb c k e = 4 ∧ ∀ i, i < p.1 → c (tb c k e + i) = w_pace.getD i 0) ∨ (p.2 = 0 ∧ ¬ WD c k e w_pace))) → mSem E (d + 4) nX9_isWord (SH, A, B) 0 0 K 32 [some (.ref 74), some (.ref 1034), some (.int p.2), some (.int (nI p.1))] [] (SH, A, B) := by
  have hb := tk_b c he
  refine mSem_loop (σ := Nat × Int32) (h0 := (SH, A, B)) MX9_isWord rfl aX9_isWord 300 [32] (fun p => [some (.ref 74), some (.ref 1034), some (.int p.2), some (.int (nI p.1))]) (fun p => (SH, A, B)) (fun p => p.1 ≤ 4 ∧ ((p.2 = 1 ∧ ts c k e = 1 ∧ te c k e - tb c k e = 4 ∧ ∀ i, i < p.1 → c (tb c k e + i) = w_pace.getD i 0) ∨ (p.2 = 0 ∧ ¬ WD c k e w_pace))) (fun p => 4 - p.1) ?_
  rintro ⟨j, z⟩ ⟨hj, hI⟩ cl ax hcl hax hlp
  have hj : j ≤ 4 := hj
  refine hcl _ _ _ _ (w_len24 ?_)
  rcases hI with ⟨z1, t1, tl, hI⟩ | ⟨z0, nw⟩
  · have z1 : z = 1 := z1
    subst z1
    have hI : ∀ i, i < j → c (tb c k e + i) = w_pace.getD i 0 := hI
    refine ⟨fun (c0 : nI 4 ≤ nI j) => ?_, fun (c0 : ¬ nI 4 ≤ nI j) => ?_⟩
    · rw [nI_leI (by omega) (by omega)] at c0
      exact ⟨show narrow .boolean (.int 1) = .int 1 from rfl, k1 ⟨t1, tl, fun i hi => hI i (by have hi : i < 4 := hi; omega)⟩⟩
    · rw [nI_leI (by omega) (by omega)] at c0
      refine ⟨fun (h9 : (1 : Int32) = 0) => absurd h9 (by decide), fun _ => ?_⟩
      have ei : A 74 7 + nI j = nI (tb c k e + j) := by rw [h7, nI_add]
      have e8 : (A 74 7 + nI j).toNatClampNeg = tb c k e + j := by rw [ei]; exact nI_clamp (by omega)
      refine ⟨show vp_in (A 74 7 + nI j) 120 by rw [ei]; exact vp_in_nI (by omega) (by decide), ?_⟩
      refine hcl _ _ _ _ (w_char24 j (by omega) ?_)
      have ec : A 79 (A 74 7 + nI j).toNatClampNeg = c (tb c k e + j) := by rw [e8]; exact hc _ (by omega)
      refine ⟨fun (c1 : ¬ A 79 (A 74 7 + nI j).toNatClampNeg = w_pace.getD j 0) => ?_, fun (c1 : A 79 (A 74 7 + nI j).toNatClampNeg = w_pace.getD j 0) => ?_⟩
      · rw [ec] at c1
        have this : ax 32 [some (.ref 74), some (.ref 1034), some (.int 0), some (.int (nI (j + 1)))] [] (SH, A, B) := hlp (j + 1, 0) ⟨by show j + 1 ≤ 4; omega, Or.inr ⟨rfl, fun q => c1 (q.2.2 j (by show j < 4; omega))⟩⟩ (by show 4 - (j + 1) < 4 - j; omega)
        rw [← nI_1] at this
        exact this
      · rw [ec] at c1
        have this : ax 32 [some (.ref 74), some (.ref 1034), some (.int 1), some (.int (nI (j + 1)))] [] (SH, A, B) := hlp (j + 1, 1) ⟨by show j + 1 ≤ 4; omega, Or.inl ⟨rfl, t1, tl, fun i hi => by
          have hi : i < j + 1 := hi
          by_cases q : i = j
          · rw [q]; exact c1
          · exact hI i (by omega)⟩⟩ (by show 4 - (j + 1) < 4 - j; omega)
        rw [← nI_1] at this
        exact this
  · have z0 : z = 0 := z0
    subst z0
    refine ⟨fun _ => ⟨show narrow .boolean (.int 0) = .int 0 from rfl, k0 nw⟩, fun _ => ?_⟩
    refine ⟨fun _ => ?_, fun (h9 : ¬ (0 : Int32) = 0) => absurd rfl h9⟩
    exact ⟨show narrow .boolean (.int 0) = .int 0 from rfl, k0 nw⟩
theorem w_mw24 {E : ME} {d : Nat} {A : Nat → Nat → Int32} {B : Nat → Nat → Int64} {K : MK} {c : Nat → Int32} {k e : Nat} (hk : k ≤ 120) (he : e ≤ k) (hc : ∀ j, j < k → A 79 j = c j) (h7 : A 74 7 = nI (tb c k e)) (h8 : A 74 8 = nI (te c k e)) (h9 : A 74 9 = nI (ts c k e)) (k1 : WD c k e w_pace → K (some (.int 1)) (SH, A, B)) (k0 : ¬ WD c k e w_pace → K (some (.int 0)) (SH, A, B)) : mCall E (d + 4) nX9_isWord [.ref 74, .ref 1034] (SH, A, B) K := by
  have hb := tk_b c he
  refine mCall_sem MX9_isWord rfl rfl (Or.inl ⟨rfl, rfl, rfl⟩) rfl (mSem_wp MX9_isWord rfl aX9_isWord 300 [32] (fun cl ax hcl hax => ?_))
  refine ⟨fun (c0 : ¬ A 74 9 = nI 1) => ?_, fun (c0 : A 74 9 = nI 1) => ?_⟩
  · rw [h9, nI_eq (by omega) (by omega)] at c0
    exact hax _ _ _ _ (lp_mw24 (d := d) hk he hc h7 k1 k0 (0, 0) ⟨by omega, Or.inr ⟨rfl, fun q => c0 q.1⟩⟩)
  rw [h9, nI_eq (by omega) (by omega)] at c0
  refine hcl _ _ _ _ (w_len24 ?_)
  have el : A 74 8 - A 74 7 = nI (te c k e - tb c k e) := by rw [h8, h7, pk_sub (by omega)]
  refine ⟨fun (c1 : ¬ A 74 8 - A 74 7 = nI 4) => ?_, fun (c1 : A 74 8 - A 74 7 = nI 4) => ?_⟩
  · rw [el, nI_eq (by omega) (by omega)] at c1
    exact hax _ _ _ _ (lp_mw24 (d := d) hk he hc h7 k1 k0 (0, 0) ⟨by omega, Or.inr ⟨rfl, fun q => c1 q.2.1⟩⟩)
  · rw [el, nI_eq (by omega) (by omega)] at c1
    exact hax _ _ _ _ (lp_mw24 (d := d) hk he hc h7 k1 k0 (0, 1) ⟨by omega, Or.inl ⟨rfl, c0, c1, fun i hi => absurd hi (by simp)⟩⟩)
theorem lp_xw2 {E : ME} {d : Nat} {A : Nat → Nat → Int32} {B : Nat → Nat → Int64} {K : MK} {c : Nat → Int32} {k e : Nat} (hk : k ≤ 120) (he : e ≤ k) (hc : ∀ j, j < k → A 63 j = c j) (h4 : A 45 4 = nI (tb c k e)) (t1 : ts c k e = 1) (tl : te c k e - tb c k e = 4) (k1 : WD c k e w_warm → K (some (.int 1)) (SH, A, B)) (k0 : ¬ WD c k e w_warm → K (some (.int 0)) (SH, A, B)) : ∀ j, (j ≤ 4 ∧ ∀ i, i < j → c (tb c k e + i) = w_warm.getD i 0) → mSem E (d + 4) nX6_isWord (SH, A, B) 0 0 K 28 [some (.ref 45), some (.ref 1012), some (.int (nI j))] [] (SH, A, B) := by
  have hb := tk_b c he
  refine mSem_loop (h0 := (SH, A, B)) MX6_isWord rfl aX6_isWord 300 [28] (fun j => [some (.ref 45), some (.ref 1012), some (.int (nI j))]) (fun j => (SH, A, B)) (fun j => j ≤ 4 ∧ ∀ i, i < j → c (tb c k e + i) = w_warm.getD i 0) (fun j => 4 - j) ?_
  rintro j ⟨hj, hI⟩ cl ax hcl hax hlp
  refine hcl _ _ _ _ (w_len2 ?_)
  refine ⟨fun (c0 : nI 4 ≤ nI j) => ?_, fun (c0 : ¬ nI 4 ≤ nI j) => ?_⟩
  · rw [nI_leI (by omega) (by omega)] at c0
    exact ⟨rfl, k1 ⟨t1, tl, fun i hi => hI i (by have hi : i < 4 := hi; omega)⟩⟩
  · rw [nI_leI (by omega) (by omega)] at c0
    have ei : A 45 4 + nI j = nI (tb c k e + j) := by rw [h4, nI_add]
    have e8 : (A 45 4 + nI j).toNatClampNeg = tb c k e + j := by rw [ei]; exact nI_clamp (by omega)
    refine ⟨show vp_in (A 45 4 + nI j) 120 by rw [ei]; exact vp_in_nI (by omega) (by decide), ?_⟩
    refine hcl _ _ _ _ (w_char2 j (by omega) ?_)
    have ec : A 63 (A 45 4 + nI j).toNatClampNeg = c (tb c k e + j) := by rw [e8]; exact hc _ (by omega)
    refine ⟨fun (c1 : A 63 (A 45 4 + nI j).toNatClampNeg = w_warm.getD j 0) => ?_, fun (c1 : ¬ A 63 (A 45 4 + nI j).toNatClampNeg = w_warm.getD j 0) => ?_⟩
    · rw [ec] at c1
      have this : ax 28 [some (.ref 45), some (.ref 1012), some (.int (nI (j + 1)))] [] (SH, A, B) := hlp (j + 1) ⟨by omega, fun i hi => by
        by_cases q : i = j
        · rw [q]; exact c1
        · exact hI i (by omega)⟩ (by omega)
      rw [← nI_1] at this
      exact this
    · rw [ec] at c1
      exact ⟨rfl, k0 (fun q => c1 (q.2.2 j (by show j < 4; omega)))⟩
theorem w_xw2 {E : ME} {d : Nat} {A : Nat → Nat → Int32} {B : Nat → Nat → Int64} {K : MK} {c : Nat → Int32} {k e : Nat} (hk : k ≤ 120) (he : e ≤ k) (hc : ∀ j, j < k → A 63 j = c j) (hT : TX c k (A 45) e) (k1 : WD c k e w_warm → K (some (.int 1)) (SH, A, B)) (k0 : ¬ WD c k e w_warm → K (some (.int 0)) (SH, A, B)) : mCall E (d + 4) nX6_isWord [.ref 45, .ref 1012] (SH, A, B) K := by
  obtain ⟨_, h3, h4, h5, _⟩ := hT
  have hb := tk_b c he
  refine mCall_sem MX6_isWord rfl rfl (Or.inl ⟨rfl, rfl, rfl⟩) rfl (mSem_wp MX6_isWord rfl aX6_isWord 300 [28] (fun cl ax hcl hax => ?_))
  refine ⟨fun (c0 : ¬ A 45 3 = 1) => ⟨rfl, k0 (fun q => c0 (by rw [h3]; exact (tx_1 he).mpr q.1))⟩, fun (c0 : A 45 3 = 1) => ?_⟩
  rw [h3, tx_1 he] at c0
  refine hcl _ _ _ _ (w_len2 ?_)
  have el : A 45 5 - A 45 4 = nI (te c k e - tb c k e) := by rw [h5, h4, pk_sub (by omega)]
  refine ⟨fun (c1 : A 45 5 - A 45 4 = nI 4) => ?_, fun (c1 : ¬ A 45 5 - A 45 4 = nI 4) => ⟨rfl, k0 (fun q => c1 (by rw [el, q.2.1]; rfl))⟩⟩
  rw [el, nI_eq (by omega) (by omega)] at c1
  exact hax _ _ _ _ (lp_xw2 (d := d) hk he hc h4 c0 c1 k1 k0 0 ⟨by omega, fun i hi => by omega⟩)
theorem lp_mw25 {E : ME} {d : Nat} {A : Nat → Nat → Int32} {B : Nat → Nat → Int64} {K : MK} {c : Nat → Int32} {k e : Nat} (hk : k ≤ 120) (he : e ≤ k) (hc : ∀ j, j < k → A 79 j = c j) (h7 : A 74 7 = nI (tb c k e)) (k1 : WD c k e w_warm → K (some (.int 1)) (SH, A, B)) (k0 : ¬ WD c k e w_warm → K (some (.int 0)) (SH, A, B)) : ∀ p : Nat × Int32, (p.1 ≤ 4 ∧ ((p.2 = 1 ∧ ts c k e = 1 ∧ te c k e - tb c k e = 4 ∧ ∀ i, i < p.1 → c (tb c k e + i) = w_warm.getD i 0) ∨ (p.2 = 0 ∧ ¬ WD c k e w_warm))) → mSem E (d + 4) nX9_isWord (SH, A, B) 0 0 K 32 [some (.ref 74), some (.ref 1035), some (.int p.2), some (.int (nI p.1))] [] (SH, A, B) := by
  have hb := tk_b c he
  refine mSem_loop (σ := Nat × Int32) (h0 := (SH, A, B)) MX9_isWord rfl aX9_isWord 300 [32] (fun p => [some (.ref 74), some (.ref 1035), some (.int p.2), some (.int (nI p.1))]) (fun p => (SH, A, B)) (fun p => p.1 ≤ 4 ∧ ((p.2 = 1 ∧ ts c k e = 1 ∧ te c k e - tb c k e = 4 ∧ ∀ i, i < p.1 → c (tb c k e + i) = w_warm.getD i 0) ∨ (p.2 = 0 ∧ ¬ WD c k e w_warm))) (fun p => 4 - p.1) ?_
  rintro ⟨j, z⟩ ⟨hj, hI⟩ cl ax hcl hax hlp
  have hj : j ≤ 4 := hj
  refine hcl _ _ _ _ (w_len25 ?_)
  rcases hI with ⟨z1, t1, tl, hI⟩ | ⟨z0, nw⟩
  · have z1 : z = 1 := z1
    subst z1
    have hI : ∀ i, i < j → c (tb c k e + i) = w_warm.getD i 0 := hI
    refine ⟨fun (c0 : nI 4 ≤ nI j) => ?_, fun (c0 : ¬ nI 4 ≤ nI j) => ?_⟩
    · rw [nI_leI (by omega) (by omega)] at c0
      exact ⟨show narrow .boolean (.int 1) = .int 1 from rfl, k1 ⟨t1, tl, fun i hi => hI i (by have hi : i < 4 := hi; omega)⟩⟩
    · rw [nI_leI (by omega) (by omega)] at c0
      refine ⟨fun (h9 : (1 : Int32) = 0) => absurd h9 (by decide), fun _ => ?_⟩
      have ei : A 74 7 + nI j = nI (tb c k e + j) := by rw [h7, nI_add]
      have e8 : (A 74 7 + nI j).toNatClampNeg = tb c k e + j := by rw [ei]; exact nI_clamp (by omega)
      refine ⟨show vp_in (A 74 7 + nI j) 120 by rw [ei]; exact vp_in_nI (by omega) (by decide), ?_⟩
      refine hcl _ _ _ _ (w_char25 j (by omega) ?_)
      have ec : A 79 (A 74 7 + nI j).toNatClampNeg = c (tb c k e + j) := by rw [e8]; exact hc _ (by omega)
      refine ⟨fun (c1 : ¬ A 79 (A 74 7 + nI j).toNatClampNeg = w_warm.getD j 0) => ?_, fun (c1 : A 79 (A 74 7 + nI j).toNatClampNeg = w_warm.getD j 0) => ?_⟩
      · rw [ec] at c1
        have this : ax 32 [some (.ref 74), some (.ref 1035), some (.int 0), some (.int (nI (j + 1)))] [] (SH, A, B) := hlp (j + 1, 0) ⟨by show j + 1 ≤ 4; omega, Or.inr ⟨rfl, fun q => c1 (q.2.2 j (by show j < 4; omega))⟩⟩ (by show 4 - (j + 1) < 4 - j; omega)
        rw [← nI_1] at this
        exact this
      · rw [ec] at c1
        have this : ax 32 [some (.ref 74), some (.ref 1035), some (.int 1), some (.int (nI (j + 1)))] [] (SH, A, B) := hlp (j + 1, 1) ⟨by show j + 1 ≤ 4; omega, Or.inl ⟨rfl, t1, tl, fun i hi => by
          have hi : i < j + 1 := hi
          by_cases q : i = j
          · rw [q]; exact c1
          · exact hI i (by omega)⟩⟩ (by show 4 - (j + 1) < 4 - j; omega)
        rw [← nI_1] at this
        exact this
  · have z0 : z = 0 := z0
    subst z0
    refine ⟨fun _ => ⟨show narrow .boolean (.int 0) = .int 0 from rfl, k0 nw⟩, fun _ => ?_⟩
    refine ⟨fun _ => ?_, fun (h9 : ¬ (0 : Int32) = 0) => absurd rfl h9⟩
    exact ⟨show narrow .boolean (.int 0) = .int 0 from rfl, k0 nw⟩
theorem w_mw25 {E : ME} {d : Nat} {A : Nat → Nat → Int32} {B : Nat → Nat → Int64} {K : MK} {c : Nat → Int32} {k e : Nat} (hk : k ≤ 120) (he : e ≤ k) (hc : ∀ j, j < k → A 79 j = c j) (h7 : A 74 7 = nI (tb c k e)) (h8 : A 74 8 = nI (te c k e)) (h9 : A 74 9 = nI (ts c k e)) (k1 : WD c k e w_warm → K (some (.int 1)) (SH, A, B)) (k0 : ¬ WD c k e w_warm → K (some (.int 0)) (SH, A, B)) : mCall E (d + 4) nX9_isWord [.ref 74, .ref 1035] (SH, A, B) K := by
  have hb := tk_b c he
  refine mCall_sem MX9_isWord rfl rfl (Or.inl ⟨rfl, rfl, rfl⟩) rfl (mSem_wp MX9_isWord rfl aX9_isWord 300 [32] (fun cl ax hcl hax => ?_))
  refine ⟨fun (c0 : ¬ A 74 9 = nI 1) => ?_, fun (c0 : A 74 9 = nI 1) => ?_⟩
  · rw [h9, nI_eq (by omega) (by omega)] at c0
    exact hax _ _ _ _ (lp_mw25 (d := d) hk he hc h7 k1 k0 (0, 0) ⟨by omega, Or.inr ⟨rfl, fun q => c0 q.1⟩⟩)
  rw [h9, nI_eq (by omega) (by omega)] at c0
  refine hcl _ _ _ _ (w_len25 ?_)
  have el : A 74 8 - A 74 7 = nI (te c k e - tb c k e) := by rw [h8, h7, pk_sub (by omega)]
  refine ⟨fun (c1 : ¬ A 74 8 - A 74 7 = nI 4) => ?_, fun (c1 : A 74 8 - A 74 7 = nI 4) => ?_⟩
  · rw [el, nI_eq (by omega) (by omega)] at c1
    exact hax _ _ _ _ (lp_mw25 (d := d) hk he hc h7 k1 k0 (0, 0) ⟨by omega, Or.inr ⟨rfl, fun q => c1 q.2.1⟩⟩)
  · rw [el, nI_eq (by omega) (by omega)] at c1
    exact hax _ _ _ _ (lp_mw25 (d := d) hk he hc h7 k1 k0 (0, 1) ⟨by omega, Or.inl ⟨rfl, c0, c1, fun i hi => absurd hi (by simp)⟩⟩)
theorem lp_xw3 {E : ME} {d : Nat} {A : Nat → Nat → Int32} {B : Nat → Nat → Int64} {K : MK} {c : Nat → Int32} {k e : Nat} (hk : k ≤ 120) (he : e ≤ k) (hc : ∀ j, j < k → A 63 j = c j) (h4 : A 45 4 = nI (tb c k e)) (t1 : ts c k e = 1) (tl : te c k e - tb c k e = 5) (k1 : WD c k e w_stake → K (some (.int 1)) (SH, A, B)) (k0 : ¬ WD c k e w_stake → K (some (.int 0)) (SH, A, B)) : ∀ j, (j ≤ 5 ∧ ∀ i, i < j → c (tb c k e + i) = w_stake.getD i 0) → mSem E (d + 4) nX6_isWord (SH, A, B) 0 0 K 28 [some (.ref 45), some (.ref 1013), some (.int (nI j))] [] (SH, A, B) := by
  have hb := tk_b c he
  refine mSem_loop (h0 := (SH, A, B)) MX6_isWord rfl aX6_isWord 300 [28] (fun j => [some (.ref 45), some (.ref 1013), some (.int (nI j))]) (fun j => (SH, A, B)) (fun j => j ≤ 5 ∧ ∀ i, i < j → c (tb c k e + i) = w_stake.getD i 0) (fun j => 5 - j) ?_
  rintro j ⟨hj, hI⟩ cl ax hcl hax hlp
  refine hcl _ _ _ _ (w_len3 ?_)
  refine ⟨fun (c0 : nI 5 ≤ nI j) => ?_, fun (c0 : ¬ nI 5 ≤ nI j) => ?_⟩
  · rw [nI_leI (by omega) (by omega)] at c0
    exact ⟨rfl, k1 ⟨t1, tl, fun i hi => hI i (by have hi : i < 5 := hi; omega)⟩⟩
  · rw [nI_leI (by omega) (by omega)] at c0
    have ei : A 45 4 + nI j = nI (tb c k e + j) := by rw [h4, nI_add]
    have e8 : (A 45 4 + nI j).toNatClampNeg = tb c k e + j := by rw [ei]; exact nI_clamp (by omega)
    refine ⟨show vp_in (A 45 4 + nI j) 120 by rw [ei]; exact vp_in_nI (by omega) (by decide), ?_⟩
    refine hcl _ _ _ _ (w_char3 j (by omega) ?_)
    have ec : A 63 (A 45 4 + nI j).toNatClampNeg = c (tb c k e + j) := by rw [e8]; exact hc _ (by omega)
    refine ⟨fun (c1 : A 63 (A 45 4 + nI j).toNatClampNeg = w_stake.getD j 0) => ?_, fun (c1 : ¬ A 63 (A 45 4 + nI j).toNatClampNeg = w_stake.getD j 0) => ?_⟩
    · rw [ec] at c1
      have this : ax 28 [some (.ref 45), some (.ref 1013), some (.int (nI (j + 1)))] [] (SH, A, B) := hlp (j + 1) ⟨by omega, fun i hi => by
        by_cases q : i = j
        · rw [q]; exact c1
        · exact hI i (by omega)⟩ (by omega)
      rw [← nI_1] at this
      exact this
    · rw [ec] at c1
      exact ⟨rfl, k0 (fun q => c1 (q.2.2 j (by show j < 5; omega)))⟩
theorem w_xw3 {E : ME} {d : Nat} {A : Nat → Nat → Int32} {B : Nat → Nat → Int64} {K : MK} {c : Nat → Int32} {k e : Nat} (hk : k ≤ 120) (he : e ≤ k) (hc : ∀ j, j < k → A 63 j = c j) (hT : TX c k (A 45) e) (k1 : WD c k e w_stake → K (some (.int 1)) (SH, A, B)) (k0 : ¬ WD c k e w_stake → K (some (.int 0)) (SH, A, B)) : mCall E (d + 4) nX6_isWord [.ref 45, .ref 1013] (SH, A, B) K := by
  obtain ⟨_, h3, h4, h5, _⟩ := hT
  have hb := tk_b c he
  refine mCall_sem MX6_isWord rfl rfl (Or.inl ⟨rfl, rfl, rfl⟩) rfl (mSem_wp MX6_isWord rfl aX6_isWord 300 [28] (fun cl ax hcl hax => ?_))
  refine ⟨fun (c0 : ¬ A 45 3 = 1) => ⟨rfl, k0 (fun q => c0 (by rw [h3]; exact (tx_1 he).mpr q.1))⟩, fun (c0 : A 45 3 = 1) => ?_⟩
  rw [h3, tx_1 he] at c0
  refine hcl _ _ _ _ (w_len3 ?_)
  have el : A 45 5 - A 45 4 = nI (te c k e - tb c k e) := by rw [h5, h4, pk_sub (by omega)]
  refine ⟨fun (c1 : A 45 5 - A 45 4 = nI 5) => ?_, fun (c1 : ¬ A 45 5 - A 45 4 = nI 5) => ⟨rfl, k0 (fun q => c1 (by rw [el, q.2.1]; rfl))⟩⟩
  rw [el, nI_eq (by omega) (by omega)] at c1
  exact hax _ _ _ _ (lp_xw3 (d := d) hk he hc h4 c0 c1 k1 k0 0 ⟨by omega, fun i hi => by omega⟩)
theorem lp_mw26 {E : ME} {d : Nat} {A : Nat → Nat → Int32} {B : Nat → Nat → Int64} {K : MK} {c : Nat → Int32} {k e : Nat} (hk : k ≤ 120) (he : e ≤ k) (hc : ∀ j, j < k → A 79 j = c j) (h7 : A 74 7 = nI (tb c k e)) (k1 : WD c k e w_stake → K (some (.int 1)) (SH, A, B)) (k0 : ¬ WD c k e w_stake → K (some (.int 0)) (SH, A, B)) : ∀ p : Nat × Int32, (p.1 ≤ 5 ∧ ((p.2 = 1 ∧ ts c k e = 1 ∧ te c k e - tb c k e = 5 ∧ ∀ i, i < p.1 → c (tb c k e + i) = w_stake.getD i 0) ∨ (p.2 = 0 ∧ ¬ WD c k e w_stake))) → mSem E (d + 4) nX9_isWord (SH, A, B) 0 0 K 32 [some (.ref 74), some (.ref 1036), some (.int p.2), some (.int (nI p.1))] [] (SH, A, B) := by
  have hb := tk_b c he
  refine mSem_loop (σ := Nat × Int32) (h0 := (SH, A, B)) MX9_isWord rfl aX9_isWord 300 [32] (fun p => [some (.ref 74), some (.ref 1036), some (.int p.2), some (.int (nI p.1))]) (fun p => (SH, A, B)) (fun p => p.1 ≤ 5 ∧ ((p.2 = 1 ∧ ts c k e = 1 ∧ te c k e - tb c k e = 5 ∧ ∀ i, i < p.1 → c (tb c k e + i) = w_stake.getD i 0) ∨ (p.2 = 0 ∧ ¬ WD c k e w_stake))) (fun p => 5 - p.1) ?_
  rintro ⟨j, z⟩ ⟨hj, hI⟩ cl ax hcl hax hlp
  have hj : j ≤ 5 := hj
  refine hcl _ _ _ _ (w_len26 ?_)
  rcases hI with ⟨z1, t1, tl, hI⟩ | ⟨z0, nw⟩
  · have z1 : z = 1 := z1
    subst z1
    have hI : ∀ i, i < j → c (tb c k e + i) = w_stake.getD i 0 := hI
    refine ⟨fun (c0 : nI 5 ≤ nI j) => ?_, fun (c0 : ¬ nI 5 ≤ nI j) => ?_⟩
    · rw [nI_leI (by omega) (by omega)] at c0
      exact ⟨show narrow .boolean (.int 1) = .int 1 from rfl, k1 ⟨t1, tl, fun i hi => hI i (by have hi : i < 5 := hi; omega)⟩⟩
    · rw [nI_leI (by omega) (by omega)] at c0
      refine ⟨fun (h9 : (1 : Int32) = 0) => absurd h9 (by decide), fun _ => ?_⟩
      have ei : A 74 7 + nI j = nI (tb c k e + j) := by rw [h7, nI_add]
      have e8 : (A 74 7 + nI j).toNatClampNeg = tb c k e + j := by rw [ei]; exact nI_clamp (by omega)
      refine ⟨show vp_in (A 74 7 + nI j) 120 by rw [ei]; exact vp_in_nI (by omega) (by decide), ?_⟩
      refine hcl _ _ _ _ (w_char26 j (by omega) ?_)
      have ec : A 79 (A 74 7 + nI j).toNatClampNeg = c (tb c k e + j) := by rw [e8]; exact hc _ (by omega)
      refine ⟨fun (c1 : ¬ A 79 (A 74 7 + nI j).toNatClampNeg = w_stake.getD j 0) => ?_, fun (c1 : A 79 (A 74 7 + nI j).toNatClampNeg = w_stake.getD j 0) => ?_⟩
      · rw [ec] at c1
        have this : ax 32 [some (.ref 74), some (.ref 1036), some (.int 0), some (.int (nI (j + 1)))] [] (SH, A, B) := hlp (j + 1, 0) ⟨by show j + 1 ≤ 5; omega, Or.inr ⟨rfl, fun q => c1 (q.2.2 j (by show j < 5; omega))⟩⟩ (by show 5 - (j + 1) < 5 - j; omega)
        rw [← nI_1] at this
        exact this
      · rw [ec] at c1
        have this : ax 32 [some (.ref 74), some (.ref 1036), some (.int 1), some (.int (nI (j + 1)))] [] (SH, A, B) := hlp (j + 1, 1) ⟨by show j + 1 ≤ 5; omega, Or.inl ⟨rfl, t1, tl, fun i hi => by
          have hi : i < j + 1 := hi
          by_cases q : i = j
          · rw [q]; exact c1
          · exact hI i (by omega)⟩⟩ (by show 5 - (j + 1) < 5 - j; omega)
        rw [← nI_1] at this
        exact this
  · have z0 : z = 0 := z0
    subst z0
    refine ⟨fun _ => ⟨show narrow .boolean (.int 0) = .int 0 from rfl, k0 nw⟩, fun _ => ?_⟩
    refine ⟨fun _ => ?_, fun (h9 : ¬ (0 : Int32) = 0) => absurd rfl h9⟩
    exact ⟨show narrow .boolean (.int 0) = .int 0 from rfl, k0 nw⟩
theorem w_mw26 {E : ME} {d : Nat} {A : Nat → Nat → Int32} {B : Nat → Nat → Int64} {K : MK} {c : Nat → Int32} {k e : Nat} (hk : k ≤ 120) (he : e ≤ k) (hc : ∀ j, j < k → A 79 j = c j) (h7 : A 74 7 = nI (tb c k e)) (h8 : A 74 8 = nI (te c k e)) (h9 : A 74 9 = nI (ts c k e)) (k1 : WD c k e w_stake → K (some (.int 1)) (SH, A, B)) (k0 : ¬ WD c k e w_stake → K (some (.int 0)) (SH, A, B)) : mCall E (d + 4) nX9_isWord [.ref 74, .ref 1036] (SH, A, B) K := by
  have hb := tk_b c he
  refine mCall_sem MX9_isWord rfl rfl (Or.inl ⟨rfl, rfl, rfl⟩) rfl (mSem_wp MX9_isWord rfl aX9_isWord 300 [32] (fun cl ax hcl hax => ?_))
  refine ⟨fun (c0 : ¬ A 74 9 = nI 1) => ?_, fun (c0 : A 74 9 = nI 1) => ?_⟩
  · rw [h9, nI_eq (by omega) (by omega)] at c0
    exact hax _ _ _ _ (lp_mw26 (d := d) hk he hc h7 k1 k0 (0, 0) ⟨by omega, Or.inr ⟨rfl, fun q => c0 q.1⟩⟩)
  rw [h9, nI_eq (by omega) (by omega)] at c0
  refine hcl _ _ _ _ (w_len26 ?_)
  have el : A 74 8 - A 74 7 = nI (te c k e - tb c k e) := by rw [h8, h7, pk_sub (by omega)]
  refine ⟨fun (c1 : ¬ A 74 8 - A 74 7 = nI 5) => ?_, fun (c1 : A 74 8 - A 74 7 = nI 5) => ?_⟩
  · rw [el, nI_eq (by omega) (by omega)] at c1
    exact hax _ _ _ _ (lp_mw26 (d := d) hk he hc h7 k1 k0 (0, 0) ⟨by omega, Or.inr ⟨rfl, fun q => c1 q.2.1⟩⟩)
  · rw [el, nI_eq (by omega) (by omega)] at c1
    exact hax _ _ _ _ (lp_mw26 (d := d) hk he hc h7 k1 k0 (0, 1) ⟨by omega, Or.inl ⟨rfl, c0, c1, fun i hi => absurd hi (by simp)⟩⟩)
theorem lp_xw4 {E : ME} {d : Nat} {A : Nat → Nat → Int32} {B : Nat → Nat → Int64} {K : MK} {c : Nat → Int32} {k e : Nat} (hk : k ≤ 120) (he : e ≤ k) (hc : ∀ j, j < k → A 63 j = c j) (h4 : A 45 4 = nI (tb c k e)) (t1 : ts c k e = 1) (tl : te c k e - tb c k e = 4) (k1 : WD c k e w_from → K (some (.int 1)) (SH, A, B)) (k0 : ¬ WD c k e w_from → K (some (.int 0)) (SH, A, B)) : ∀ j, (j ≤ 4 ∧ ∀ i, i < j → c (tb c k e + i) = w_from.getD i 0) → mSem E (d + 4) nX6_isWord (SH, A, B) 0 0 K 28 [some (.ref 45), some (.ref 1014), some (.int (nI j))] [] (SH, A, B) := by
  have hb := tk_b c he
  refine mSem_loop (h0 := (SH, A, B)) MX6_isWord rfl aX6_isWord 300 [28] (fun j => [some (.ref 45), some (.ref 1014), some (.int (nI j))]) (fun j => (SH, A, B)) (fun j => j ≤ 4 ∧ ∀ i, i < j → c (tb c k e + i) = w_from.getD i 0) (fun j => 4 - j) ?_
  rintro j ⟨hj, hI⟩ cl ax hcl hax hlp
  refine hcl _ _ _ _ (w_len4 ?_)
  refine ⟨fun (c0 : nI 4 ≤ nI j) => ?_, fun (c0 : ¬ nI 4 ≤ nI j) => ?_⟩
  · rw [nI_leI (by omega) (by omega)] at c0
    exact ⟨rfl, k1 ⟨t1, tl, fun i hi => hI i (by have hi : i < 4 := hi; omega)⟩⟩
  · rw [nI_leI (by omega) (by omega)] at c0
    have ei : A 45 4 + nI j = nI (tb c k e + j) := by rw [h4, nI_add]
    have e8 : (A 45 4 + nI j).toNatClampNeg = tb c k e + j := by rw [ei]; exact nI_clamp (by omega)
    refine ⟨show vp_in (A 45 4 + nI j) 120 by rw [ei]; exact vp_in_nI (by omega) (by decide), ?_⟩
    refine hcl _ _ _ _ (w_char4 j (by omega) ?_)
    have ec : A 63 (A 45 4 + nI j).toNatClampNeg = c (tb c k e + j) := by rw [e8]; exact hc _ (by omega)
    refine ⟨fun (c1 : A 63 (A 45 4 + nI j).toNatClampNeg = w_from.getD j 0) => ?_, fun (c1 : ¬ A 63 (A 45 4 + nI j).toNatClampNeg = w_from.getD j 0) => ?_⟩
    · rw [ec] at c1
      have this : ax 28 [some (.ref 45), some (.ref 1014), some (.int (nI (j + 1)))] [] (SH, A, B) := hlp (j + 1) ⟨by omega, fun i hi => by
        by_cases q : i = j
        · rw [q]; exact c1
        · exact hI i (by omega)⟩ (by omega)
      rw [← nI_1] at this
      exact this
    · rw [ec] at c1
      exact ⟨rfl, k0 (fun q => c1 (q.2.2 j (by show j < 4; omega)))⟩
theorem w_xw4 {E : ME} {d : Nat} {A : Nat → Nat → Int32} {B : Nat → Nat → Int64} {K : MK} {c : Nat → Int32} {k e : Nat} (hk : k ≤ 120) (he : e ≤ k) (hc : ∀ j, j < k → A 63 j = c j) (hT : TX c k (A 45) e) (k1 : WD c k e w_from → K (some (.int 1)) (SH, A, B)) (k0 : ¬ WD c k e w_from → K (some (.int 0)) (SH, A, B)) : mCall E (d + 4) nX6_isWord [.ref 45, .ref 1014] (SH, A, B) K := by
  obtain ⟨_, h3, h4, h5, _⟩ := hT
  have hb := tk_b c he
  refine mCall_sem MX6_isWord rfl rfl (Or.inl ⟨rfl, rfl, rfl⟩) rfl (mSem_wp MX6_isWord rfl aX6_isWord 300 [28] (fun cl ax hcl hax => ?_))
  refine ⟨fun (c0 : ¬ A 45 3 = 1) => ⟨rfl, k0 (fun q => c0 (by rw [h3]; exact (tx_1 he).mpr q.1))⟩, fun (c0 : A 45 3 = 1) => ?_⟩
  rw [h3, tx_1 he] at c0
  refine hcl _ _ _ _ (w_len4 ?_)
  have el : A 45 5 - A 45 4 = nI (te c k e - tb c k e) := by rw [h5, h4, pk_sub (by omega)]
  refine ⟨fun (c1 : A 45 5 - A 45 4 = nI 4) => ?_, fun (c1 : ¬ A 45 5 - A 45 4 = nI 4) => ⟨rfl, k0 (fun q => c1 (by rw [el, q.2.1]; rfl))⟩⟩
  rw [el, nI_eq (by omega) (by omega)] at c1
  exact hax _ _ _ _ (lp_xw4 (d := d) hk he hc h4 c0 c1 k1 k0 0 ⟨by omega, fun i hi => by omega⟩)
theorem lp_mw27 {E : ME} {d : Nat} {A : Nat → Nat → Int32} {B : Nat → Nat → Int64} {K : MK} {c : Nat → Int32} {k e : Nat} (hk : k ≤ 120) (he : e ≤ k) (hc : ∀ j, j < k → A 79 j = c j) (h7 : A 74 7 = nI (tb c k e)) (k1 : WD c k e w_from → K (some (.int 1)) (SH, A, B)) (k0 : ¬ WD c k e w_from → K (some (.int 0)) (SH, A, B)) : ∀ p : Nat × Int32, (p.1 ≤ 4 ∧ ((p.2 = 1 ∧ ts c k e = 1 ∧ te c k e - tb c k e = 4 ∧ ∀ i, i < p.1 → c (tb c k e + i) = w_from.getD i 0) ∨ (p.2 = 0 ∧ ¬ WD c k e w_from))) → mSem E (d + 4) nX9_isWord (SH, A, B) 0 0 K 32 [some (.ref 74), some (.ref 1037), some (.int p.2), some (.int (nI p.1))] [] (SH, A, B) := by
  have hb := tk_b c he
  refine mSem_loop (σ := Nat × Int32) (h0 := (SH, A, B)) MX9_isWord rfl aX9_isWord 300 [32] (fun p => [some (.ref 74), some (.ref 1037), some (.int p.2), some (.int (nI p.1))]) (fun p => (SH, A, B)) (fun p => p.1 ≤ 4 ∧ ((p.2 = 1 ∧ ts c k e = 1 ∧ te c k e - tb c k e = 4 ∧ ∀ i, i < p.1 → c (tb c k e + i) = w_from.getD i 0) ∨ (p.2 = 0 ∧ ¬ WD c k e w_from))) (fun p => 4 - p.1) ?_
  rintro ⟨j, z⟩ ⟨hj, hI⟩ cl ax hcl hax hlp
  have hj : j ≤ 4 := hj
  refine hcl _ _ _ _ (w_len27 ?_)
  rcases hI with ⟨z1, t1, tl, hI⟩ | ⟨z0, nw⟩
  · have z1 : z = 1 := z1
    subst z1
    have hI : ∀ i, i < j → c (tb c k e + i) = w_from.getD i 0 := hI
    refine ⟨fun (c0 : nI 4 ≤ nI j) => ?_, fun (c0 : ¬ nI 4 ≤ nI j) => ?_⟩
    · rw [nI_leI (by omega) (by omega)] at c0
      exact ⟨show narrow .boolean (.int 1) = .int 1 from rfl, k1 ⟨t1, tl, fun i hi => hI i (by have hi : i < 4 := hi; omega)⟩⟩
    · rw [nI_leI (by omega) (by omega)] at c0
      refine ⟨fun (h9 : (1 : Int32) = 0) => absurd h9 (by decide), fun _ => ?_⟩
      have ei : A 74 7 + nI j = nI (tb c k e + j) := by rw [h7, nI_add]
      have e8 : (A 74 7 + nI j).toNatClampNeg = tb c k e + j := by rw [ei]; exact nI_clamp (by omega)
      refine ⟨show vp_in (A 74 7 + nI j) 120 by rw [ei]; exact vp_in_nI (by omega) (by decide), ?_⟩
      refine hcl _ _ _ _ (w_char27 j (by omega) ?_)
      have ec : A 79 (A 74 7 + nI j).toNatClampNeg = c (tb c k e + j) := by rw [e8]; exact hc _ (by omega)
      refine ⟨fun (c1 : ¬ A 79 (A 74 7 + nI j).toNatClampNeg = w_from.getD j 0) => ?_, fun (c1 : A 79 (A 74 7 + nI j).toNatClampNeg = w_from.getD j 0) => ?_⟩
      · rw [ec] at c1
        have this : ax 32 [some (.ref 74), some (.ref 1037), some (.int 0), some (.int (nI (j + 1)))] [] (SH, A, B) := hlp (j + 1, 0) ⟨by show j + 1 ≤ 4; omega, Or.inr ⟨rfl, fun q => c1 (q.2.2 j (by show j < 4; omega))⟩⟩ (by show 4 - (j + 1) < 4 - j; omega)
        rw [← nI_1] at this
        exact this
      · rw [ec] at c1
        have this : ax 32 [some (.ref 74), some (.ref 1037), some (.int 1), some (.int (nI (j + 1)))] [] (SH, A, B) := hlp (j + 1, 1) ⟨by show j + 1 ≤ 4; omega, Or.inl ⟨rfl, t1, tl, fun i hi => by
          have hi : i < j + 1 := hi
          by_cases q : i = j
          · rw [q]; exact c1
          · exact hI i (by omega)⟩⟩ (by show 4 - (j + 1) < 4 - j; omega)
        rw [← nI_1] at this
        exact this
  · have z0 : z = 0 := z0
    subst z0
    refine ⟨fun _ => ⟨show narrow .boolean (.int 0) = .int 0 from rfl, k0 nw⟩, fun _ => ?_⟩
    refine ⟨fun _ => ?_, fun (h9 : ¬ (0 : Int32) = 0) => absurd rfl h9⟩
    exact ⟨show narrow .boolean (.int 0) = .int 0 from rfl, k0 nw⟩
theorem w_mw27 {E : ME} {d : Nat} {A : Nat → Nat → Int32} {B : Nat → Nat → Int64} {K : MK} {c : Nat → Int32} {k e : Nat} (hk : k ≤ 120) (he : e ≤ k) (hc : ∀ j, j < k → A 79 j = c j) (h7 : A 74 7 = nI (tb c k e)) (h8 : A 74 8 = nI (te c k e)) (h9 : A 74 9 = nI (ts c k e)) (k1 : WD c k e w_from → K (some (.int 1)) (SH, A, B)) (k0 : ¬ WD c k e w_from → K (some (.int 0)) (SH, A, B)) : mCall E (d + 4) nX9_isWord [.ref 74, .ref 1037] (SH, A, B) K := by
  have hb := tk_b c he
  refine mCall_sem MX9_isWord rfl rfl (Or.inl ⟨rfl, rfl, rfl⟩) rfl (mSem_wp MX9_isWord rfl aX9_isWord 300 [32] (fun cl ax hcl hax => ?_))
  refine ⟨fun (c0 : ¬ A 74 9 = nI 1) => ?_, fun (c0 : A 74 9 = nI 1) => ?_⟩
  · rw [h9, nI_eq (by omega) (by omega)] at c0
    exact hax _ _ _ _ (lp_mw27 (d := d) hk he hc h7 k1 k0 (0, 0) ⟨by omega, Or.inr ⟨rfl, fun q => c0 q.1⟩⟩)
  rw [h9, nI_eq (by omega) (by omega)] at c0
  refine hcl _ _ _ _ (w_len27 ?_)
  have el : A 74 8 - A 74 7 = nI (te c k e - tb c k e) := by rw [h8, h7, pk_sub (by omega)]
  refine ⟨fun (c1 : ¬ A 74 8 - A 74 7 = nI 4) => ?_, fun (c1 : A 74 8 - A 74 7 = nI 4) => ?_⟩
  · rw [el, nI_eq (by omega) (by omega)] at c1
    exact hax _ _ _ _ (lp_mw27 (d := d) hk he hc h7 k1 k0 (0, 0) ⟨by omega, Or.inr ⟨rfl, fun q => c1 q.2.1⟩⟩)
  · rw [el, nI_eq (by omega) (by omega)] at c1
    exact hax _ _ _ _ (lp_mw27 (d := d) hk he hc h7 k1 k0 (0, 1) ⟨by omega, Or.inl ⟨rfl, c0, c1, fun i hi => absurd hi (by simp)⟩⟩)
theorem lp_xw5 {E : ME} {d : Nat} {A : Nat → Nat → Int32} {B : Nat → Nat → Int64} {K : MK} {c : Nat → Int32} {k e : Nat} (hk : k ≤ 120) (he : e ≤ k) (hc : ∀ j, j < k → A 63 j = c j) (h4 : A 45 4 = nI (tb c k e)) (t1 : ts c k e = 1) (tl : te c k e - tb c k e = 3) (k1 : WD c k e w_for → K (some (.int 1)) (SH, A, B)) (k0 : ¬ WD c k e w_for → K (some (.int 0)) (SH, A, B)) : ∀ j, (j ≤ 3 ∧ ∀ i, i < j → c (tb c k e + i) = w_for.getD i 0) → mSem E (d + 4) nX6_isWord (SH, A, B) 0 0 K 28 [some (.ref 45), some (.ref 1015), some (.int (nI j))] [] (SH, A, B) := by
  have hb := tk_b c he
  refine mSem_loop (h0 := (SH, A, B)) MX6_isWord rfl aX6_isWord 300 [28] (fun j => [some (.ref 45), some (.ref 1015), some (.int (nI j))]) (fun j => (SH, A, B)) (fun j => j ≤ 3 ∧ ∀ i, i < j → c (tb c k e + i) = w_for.getD i 0) (fun j => 3 - j) ?_
  rintro j ⟨hj, hI⟩ cl ax hcl hax hlp
  refine hcl _ _ _ _ (w_len5 ?_)
  refine ⟨fun (c0 : nI 3 ≤ nI j) => ?_, fun (c0 : ¬ nI 3 ≤ nI j) => ?_⟩
  · rw [nI_leI (by omega) (by omega)] at c0
    exact ⟨rfl, k1 ⟨t1, tl, fun i hi => hI i (by have hi : i < 3 := hi; omega)⟩⟩
  · rw [nI_leI (by omega) (by omega)] at c0
    have ei : A 45 4 + nI j = nI (tb c k e + j) := by rw [h4, nI_add]
    have e8 : (A 45 4 + nI j).toNatClampNeg = tb c k e + j := by rw [ei]; exact nI_clamp (by omega)
    refine ⟨show vp_in (A 45 4 + nI j) 120 by rw [ei]; exact vp_in_nI (by omega) (by decide), ?_⟩
    refine hcl _ _ _ _ (w_char5 j (by omega) ?_)
    have ec : A 63 (A 45 4 + nI j).toNatClampNeg = c (tb c k e + j) := by rw [e8]; exact hc _ (by omega)
    refine ⟨fun (c1 : A 63 (A 45 4 + nI j).toNatClampNeg = w_for.getD j 0) => ?_, fun (c1 : ¬ A 63 (A 45 4 + nI j).toNatClampNeg = w_for.getD j 0) => ?_⟩
    · rw [ec] at c1
      have this : ax 28 [some (.ref 45), some (.ref 1015), some (.int (nI (j + 1)))] [] (SH, A, B) := hlp (j + 1) ⟨by omega, fun i hi => by
        by_cases q : i = j
        · rw [q]; exact c1
        · exact hI i (by omega)⟩ (by omega)
      rw [← nI_1] at this
      exact this
    · rw [ec] at c1
      exact ⟨rfl, k0 (fun q => c1 (q.2.2 j (by show j < 3; omega)))⟩
theorem w_xw5 {E : ME} {d : Nat} {A : Nat → Nat → Int32} {B : Nat → Nat → Int64} {K : MK} {c : Nat → Int32} {k e : Nat} (hk : k ≤ 120) (he : e ≤ k) (hc : ∀ j, j < k → A 63 j = c j) (hT : TX c k (A 45) e) (k1 : WD c k e w_for → K (some (.int 1)) (SH, A, B)) (k0 : ¬ WD c k e w_for → K (some (.int 0)) (SH, A, B)) : mCall E (d + 4) nX6_isWord [.ref 45, .ref 1015] (SH, A, B) K := by
  obtain ⟨_, h3, h4, h5, _⟩ := hT
  have hb := tk_b c he
  refine mCall_sem MX6_isWord rfl rfl (Or.inl ⟨rfl, rfl, rfl⟩) rfl (mSem_wp MX6_isWord rfl aX6_isWord 300 [28] (fun cl ax hcl hax => ?_))
  refine ⟨fun (c0 : ¬ A 45 3 = 1) => ⟨rfl, k0 (fun q => c0 (by rw [h3]; exact (tx_1 he).mpr q.1))⟩, fun (c0 : A 45 3 = 1) => ?_⟩
  rw [h3, tx_1 he] at c0
  refine hcl _ _ _ _ (w_len5 ?_)
  have el : A 45 5 - A 45 4 = nI (te c k e - tb c k e) := by rw [h5, h4, pk_sub (by omega)]
  refine ⟨fun (c1 : A 45 5 - A 45 4 = nI 3) => ?_, fun (c1 : ¬ A 45 5 - A 45 4 = nI 3) => ⟨rfl, k0 (fun q => c1 (by rw [el, q.2.1]; rfl))⟩⟩
  rw [el, nI_eq (by omega) (by omega)] at c1
  exact hax _ _ _ _ (lp_xw5 (d := d) hk he hc h4 c0 c1 k1 k0 0 ⟨by omega, fun i hi => by omega⟩)
theorem lp_mw28 {E : ME} {d : Nat} {A : Nat → Nat → Int32} {B : Nat → Nat → Int64} {K : MK} {c : Nat → Int32} {k e : Nat} (hk : k ≤ 120) (he : e ≤ k) (hc : ∀ j, j < k → A 79 j = c j) (h7 : A 74 7 = nI (tb c k e)) (k1 : WD c k e w_for → K (some (.int 1)) (SH, A, B)) (k0 : ¬ WD c k e w_for → K (some (.int 0)) (SH, A, B)) : ∀ p : Nat × Int32, (p.1 ≤ 3 ∧ ((p.2 = 1 ∧ ts c k e = 1 ∧ te c k e - tb c k e = 3 ∧ ∀ i, i < p.1 → c (tb c k e + i) = w_for.getD i 0) ∨ (p.2 = 0 ∧ ¬ WD c k e w_for))) → mSem E (d + 4) nX9_isWord (SH, A, B) 0 0 K 32 [some (.ref 74), some (.ref 1038), some (.int p.2), some (.int (nI p.1))] [] (SH, A, B) := by
  have hb := tk_b c he
  refine mSem_loop (σ := Nat × Int32) (h0 := (SH, A, B)) MX9_isWord rfl aX9_isWord 300 [32] (fun p => [some (.ref 74), some (.ref 1038), some (.int p.2), some (.int (nI p.1))]) (fun p => (SH, A, B)) (fun p => p.1 ≤ 3 ∧ ((p.2 = 1 ∧ ts c k e = 1 ∧ te c k e - tb c k e = 3 ∧ ∀ i, i < p.1 → c (tb c k e + i) = w_for.getD i 0) ∨ (p.2 = 0 ∧ ¬ WD c k e w_for))) (fun p => 3 - p.1) ?_
  rintro ⟨j, z⟩ ⟨hj, hI⟩ cl ax hcl hax hlp
  have hj : j ≤ 3 := hj
  refine hcl _ _ _ _ (w_len28 ?_)
  rcases hI with ⟨z1, t1, tl, hI⟩ | ⟨z0, nw⟩
  · have z1 : z = 1 := z1
    subst z1
    have hI : ∀ i, i < j → c (tb c k e + i) = w_for.getD i 0 := hI
    refine ⟨fun (c0 : nI 3 ≤ nI j) => ?_, fun (c0 : ¬ nI 3 ≤ nI j) => ?_⟩
    · rw [nI_leI (by omega) (by omega)] at c0
      exact ⟨show narrow .boolean (.int 1) = .int 1 from rfl, k1 ⟨t1, tl, fun i hi => hI i (by have hi : i < 3 := hi; omega)⟩⟩
    · rw [nI_leI (by omega) (by omega)] at c0
      refine ⟨fun (h9 : (1 : Int32) = 0) => absurd h9 (by decide), fun _ => ?_⟩
      have ei : A 74 7 + nI j = nI (tb c k e + j) := by rw [h7, nI_add]
      have e8 : (A 74 7 + nI j).toNatClampNeg = tb c k e + j := by rw [ei]; exact nI_clamp (by omega)
      refine ⟨show vp_in (A 74 7 + nI j) 120 by rw [ei]; exact vp_in_nI (by omega) (by decide), ?_⟩
      refine hcl _ _ _ _ (w_char28 j (by omega) ?_)
      have ec : A 79 (A 74 7 + nI j).toNatClampNeg = c (tb c k e + j) := by rw [e8]; exact hc _ (by omega)
      refine ⟨fun (c1 : ¬ A 79 (A 74 7 + nI j).toNatClampNeg = w_for.getD j 0) => ?_, fun (c1 : A 79 (A 74 7 + nI j).toNatClampNeg = w_for.getD j 0) => ?_⟩
      · rw [ec] at c1
        have this : ax 32 [some (.ref 74), some (.ref 1038), some (.int 0), some (.int (nI (j + 1)))] [] (SH, A, B) := hlp (j + 1, 0) ⟨by show j + 1 ≤ 3; omega, Or.inr ⟨rfl, fun q => c1 (q.2.2 j (by show j < 3; omega))⟩⟩ (by show 3 - (j + 1) < 3 - j; omega)
        rw [← nI_1] at this
        exact this
      · rw [ec] at c1
        have this : ax 32 [some (.ref 74), some (.ref 1038), some (.int 1), some (.int (nI (j + 1)))] [] (SH, A, B) := hlp (j + 1, 1) ⟨by show j + 1 ≤ 3; omega, Or.inl ⟨rfl, t1, tl, fun i hi => by
          have hi : i < j + 1 := hi
          by_cases q : i = j
          · rw [q]; exact c1
          · exact hI i (by omega)⟩⟩ (by show 3 - (j + 1) < 3 - j; omega)
        rw [← nI_1] at this
        exact this
  · have z0 : z = 0 := z0
    subst z0
    refine ⟨fun _ => ⟨show narrow .boolean (.int 0) = .int 0 from rfl, k0 nw⟩, fun _ => ?_⟩
    refine ⟨fun _ => ?_, fun (h9 : ¬ (0 : Int32) = 0) => absurd rfl h9⟩
    exact ⟨show narrow .boolean (.int 0) = .int 0 from rfl, k0 nw⟩
theorem w_mw28 {E : ME} {d : Nat} {A : Nat → Nat → Int32} {B : Nat → Nat → Int64} {K : MK} {c : Nat → Int32} {k e : Nat} (hk : k ≤ 120) (he : e ≤ k) (hc : ∀ j, j < k → A 79 j = c j) (h7 : A 74 7 = nI (tb c k e)) (h8 : A 74 8 = nI (te c k e)) (h9 : A 74 9 = nI (ts c k e)) (k1 : WD c k e w_for → K (some (.int 1)) (SH, A, B)) (k0 : ¬ WD c k e w_for → K (some (.int 0)) (SH, A, B)) : mCall E (d + 4) nX9_isWord [.ref 74, .ref 1038] (SH, A, B) K := by
  have hb := tk_b c he
  refine mCall_sem MX9_isWord rfl rfl (Or.inl ⟨rfl, rfl, rfl⟩) rfl (mSem_wp MX9_isWord rfl aX9_isWord 300 [32] (fun cl ax hcl hax => ?_))
  refine ⟨fun (c0 : ¬ A 74 9 = nI 1) => ?_, fun (c0 : A 74 9 = nI 1) => ?_⟩
  · rw [h9, nI_eq (by omega) (by omega)] at c0
    exact hax _ _ _ _ (lp_mw28 (d := d) hk he hc h7 k1 k0 (0, 0) ⟨by omega, Or.inr ⟨rfl, fun q => c0 q.1⟩⟩)
  rw [h9, nI_eq (by omega) (by omega)] at c0
  refine hcl _ _ _ _ (w_len28 ?_)
  have el : A 74 8 - A 74 7 = nI (te c k e - tb c k e) := by rw [h8, h7, pk_sub (by omega)]
  refine ⟨fun (c1 : ¬ A 74 8 - A 74 7 = nI 3) => ?_, fun (c1 : A 74 8 - A 74 7 = nI 3) => ?_⟩
  · rw [el, nI_eq (by omega) (by omega)] at c1
    exact hax _ _ _ _ (lp_mw28 (d := d) hk he hc h7 k1 k0 (0, 0) ⟨by omega, Or.inr ⟨rfl, fun q => c1 q.2.1⟩⟩)
  · rw [el, nI_eq (by omega) (by omega)] at c1
    exact hax _ _ _ _ (lp_mw28 (d := d) hk he hc h7 k1 k0 (0, 1) ⟨by omega, Or.inl ⟨rfl, c0, c1, fun i hi => absurd hi (by simp)⟩⟩)
theorem lp_xw6 {E : ME} {d : Nat} {A : Nat → Nat → Int32} {B : Nat → Nat → Int64} {K : MK} {c : Nat → Int32} {k e : Nat} (hk : k ≤ 120) (he : e ≤ k) (hc : ∀ j, j < k → A 63 j = c j) (h4 : A 45 4 = nI (tb c k e)) (t1 : ts c k e = 1) (tl : te c k e - tb c k e = 4) (k1 : WD c k e w_went → K (some (.int 1)) (SH, A, B)) (k0 : ¬ WD c k e w_went → K (some (.int 0)) (SH, A, B)) : ∀ j, (j ≤ 4 ∧ ∀ i, i < j → c (tb c k e + i) = w_went.getD i 0) → mSem E (d + 4) nX6_isWord (SH, A, B) 0 0 K 28 [some (.ref 45), some (.ref 1016), some (.int (nI j))] [] (SH, A, B) := by
  have hb := tk_b c he
  refine mSem_loop (h0 := (SH, A, B)) MX6_isWord rfl aX6_isWord 300 [28] (fun j => [some (.ref 45), some (.ref 1016), some (.int (nI j))]) (fun j => (SH, A, B)) (fun j => j ≤ 4 ∧ ∀ i, i < j → c (tb c k e + i) = w_went.getD i 0) (fun j => 4 - j) ?_
  rintro j ⟨hj, hI⟩ cl ax hcl hax hlp
  refine hcl _ _ _ _ (w_len6 ?_)
  refine ⟨fun (c0 : nI 4 ≤ nI j) => ?_, fun (c0 : ¬ nI 4 ≤ nI j) => ?_⟩
  · rw [nI_leI (by omega) (by omega)] at c0
    exact ⟨rfl, k1 ⟨t1, tl, fun i hi => hI i (by have hi : i < 4 := hi; omega)⟩⟩
  · rw [nI_leI (by omega) (by omega)] at c0
    have ei : A 45 4 + nI j = nI (tb c k e + j) := by rw [h4, nI_add]
    have e8 : (A 45 4 + nI j).toNatClampNeg = tb c k e + j := by rw [ei]; exact nI_clamp (by omega)
    refine ⟨show vp_in (A 45 4 + nI j) 120 by rw [ei]; exact vp_in_nI (by omega) (by decide), ?_⟩
    refine hcl _ _ _ _ (w_char6 j (by omega) ?_)
    have ec : A 63 (A 45 4 + nI j).toNatClampNeg = c (tb c k e + j) := by rw [e8]; exact hc _ (by omega)
    refine ⟨fun (c1 : A 63 (A 45 4 + nI j).toNatClampNeg = w_went.getD j 0) => ?_, fun (c1 : ¬ A 63 (A 45 4 + nI j).toNatClampNeg = w_went.getD j 0) => ?_⟩
    · rw [ec] at c1
      have this : ax 28 [some (.ref 45), some (.ref 1016), some (.int (nI (j + 1)))] [] (SH, A, B) := hlp (j + 1) ⟨by omega, fun i hi => by
        by_cases q : i = j
        · rw [q]; exact c1
        · exact hI i (by omega)⟩ (by omega)
      rw [← nI_1] at this
      exact this
    · rw [ec] at c1
      exact ⟨rfl, k0 (fun q => c1 (q.2.2 j (by show j < 4; omega)))⟩
theorem w_xw6 {E : ME} {d : Nat} {A : Nat → Nat → Int32} {B : Nat → Nat → Int64} {K : MK} {c : Nat → Int32} {k e : Nat} (hk : k ≤ 120) (he : e ≤ k) (hc : ∀ j, j < k → A 63 j = c j) (hT : TX c k (A 45) e) (k1 : WD c k e w_went → K (some (.int 1)) (SH, A, B)) (k0 : ¬ WD c k e w_went → K (some (.int 0)) (SH, A, B)) : mCall E (d + 4) nX6_isWord [.ref 45, .ref 1016] (SH, A, B) K := by
  obtain ⟨_, h3, h4, h5, _⟩ := hT
  have hb := tk_b c he
  refine mCall_sem MX6_isWord rfl rfl (Or.inl ⟨rfl, rfl, rfl⟩) rfl (mSem_wp MX6_isWord rfl aX6_isWord 300 [28] (fun cl ax hcl hax => ?_))
  refine ⟨fun (c0 : ¬ A 45 3 = 1) => ⟨rfl, k0 (fun q => c0 (by rw [h3]; exact (tx_1 he).mpr q.1))⟩, fun (c0 : A 45 3 = 1) => ?_⟩
  rw [h3, tx_1 he] at c0
  refine hcl _ _ _ _ (w_len6 ?_)
  have el : A 45 5 - A 45 4 = nI (te c k e - tb c k e) := by rw [h5, h4, pk_sub (by omega)]
  refine ⟨fun (c1 : A 45 5 - A 45 4 = nI 4) => ?_, fun (c1 : ¬ A 45 5 - A 45 4 = nI 4) => ⟨rfl, k0 (fun q => c1 (by rw [el, q.2.1]; rfl))⟩⟩
  rw [el, nI_eq (by omega) (by omega)] at c1
  exact hax _ _ _ _ (lp_xw6 (d := d) hk he hc h4 c0 c1 k1 k0 0 ⟨by omega, fun i hi => by omega⟩)
theorem lp_mw29 {E : ME} {d : Nat} {A : Nat → Nat → Int32} {B : Nat → Nat → Int64} {K : MK} {c : Nat → Int32} {k e : Nat} (hk : k ≤ 120) (he : e ≤ k) (hc : ∀ j, j < k → A 79 j = c j) (h7 : A 74 7 = nI (tb c k e)) (k1 : WD c k e w_went → K (some (.int 1)) (SH, A, B)) (k0 : ¬ WD c k e w_went → K (some (.int 0)) (SH, A, B)) : ∀ p : Nat × Int32, (p.1 ≤ 4 ∧ ((p.2 = 1 ∧ ts c k e = 1 ∧ te c k e - tb c k e = 4 ∧ ∀ i, i < p.1 → c (tb c k e + i) = w_went.getD i 0) ∨ (p.2 = 0 ∧ ¬ WD c k e w_went))) → mSem E (d + 4) nX9_isWord (SH, A, B) 0 0 K 32 [some (.ref 74), some (.ref 1039), some (.int p.2), some (.int (nI p.1))] [] (SH, A, B) := by
  have hb := tk_b c he
  refine mSem_loop (σ := Nat × Int32) (h0 := (SH, A, B)) MX9_isWord rfl aX9_isWord 300 [32] (fun p => [some (.ref 74), some (.ref 1039), some (.int p.2), some (.int (nI p.1))]) (fun p => (SH, A, B)) (fun p => p.1 ≤ 4 ∧ ((p.2 = 1 ∧ ts c k e = 1 ∧ te c k e - tb c k e = 4 ∧ ∀ i, i < p.1 → c (tb c k e + i) = w_went.getD i 0) ∨ (p.2 = 0 ∧ ¬ WD c k e w_went))) (fun p => 4 - p.1) ?_
  rintro ⟨j, z⟩ ⟨hj, hI⟩ cl ax hcl hax hlp
  have hj : j ≤ 4 := hj
  refine hcl _ _ _ _ (w_len29 ?_)
  rcases hI with ⟨z1, t1, tl, hI⟩ | ⟨z0, nw⟩
  · have z1 : z = 1 := z1
    subst z1
    have hI : ∀ i, i < j → c (tb c k e + i) = w_went.getD i 0 := hI
    refine ⟨fun (c0 : nI 4 ≤ nI j) => ?_, fun (c0 : ¬ nI 4 ≤ nI j) => ?_⟩
    · rw [nI_leI (by omega) (by omega)] at c0
      exact ⟨show narrow .boolean (.int 1) = .int 1 from rfl, k1 ⟨t1, tl, fun i hi => hI i (by have hi : i < 4 := hi; omega)⟩⟩
    · rw [nI_leI (by omega) (by omega)] at c0
      refine ⟨fun (h9 : (1 : Int32) = 0) => absurd h9 (by decide), fun _ => ?_⟩
      have ei : A 74 7 + nI j = nI (tb c k e + j) := by rw [h7, nI_add]
      have e8 : (A 74 7 + nI j).toNatClampNeg = tb c k e + j := by rw [ei]; exact nI_clamp (by omega)
      refine ⟨show vp_in (A 74 7 + nI j) 120 by rw [ei]; exact vp_in_nI (by omega) (by decide), ?_⟩
      refine hcl _ _ _ _ (w_char29 j (by omega) ?_)
      have ec : A 79 (A 74 7 + nI j).toNatClampNeg = c (tb c k e + j) := by rw [e8]; exact hc _ (by omega)
      refine ⟨fun (c1 : ¬ A 79 (A 74 7 + nI j).toNatClampNeg = w_went.getD j 0) => ?_, fun (c1 : A 79 (A 74 7 + nI j).toNatClampNeg = w_went.getD j 0) => ?_⟩
      · rw [ec] at c1
        have this : ax 32 [some (.ref 74), some (.ref 1039), some (.int 0), some (.int (nI (j + 1)))] [] (SH, A, B) := hlp (j + 1, 0) ⟨by show j + 1 ≤ 4; omega, Or.inr ⟨rfl, fun q => c1 (q.2.2 j (by show j < 4; omega))⟩⟩ (by show 4 - (j + 1) < 4 - j; omega)
        rw [← nI_1] at this
        exact this
      · rw [ec] at c1
        have this : ax 32 [some (.ref 74), some (.ref 1039), some (.int 1), some (.int (nI (j + 1)))] [] (SH, A, B) := hlp (j + 1, 1) ⟨by show j + 1 ≤ 4; omega, Or.inl ⟨rfl, t1, tl, fun i hi => by
          have hi : i < j + 1 := hi
          by_cases q : i = j
          · rw [q]; exact c1
          · exact hI i (by omega)⟩⟩ (by show 4 - (j + 1) < 4 - j; omega)
        rw [← nI_1] at this
        exact this
  · have z0 : z = 0 := z0
    subst z0
    refine ⟨fun _ => ⟨show narrow .boolean (.int 0) = .int 0 from rfl, k0 nw⟩, fun _ => ?_⟩
    refine ⟨fun _ => ?_, fun (h9 : ¬ (0 : Int32) = 0) => absurd rfl h9⟩
    exact ⟨show narrow .boolean (.int 0) = .int 0 from rfl, k0 nw⟩
theorem w_mw29 {E : ME} {d : Nat} {A : Nat → Nat → Int32} {B : Nat → Nat → Int64} {K : MK} {c : Nat → Int32} {k e : Nat} (hk : k ≤ 120) (he : e ≤ k) (hc : ∀ j, j < k → A 79 j = c j) (h7 : A 74 7 = nI (tb c k e)) (h8 : A 74 8 = nI (te c k e)) (h9 : A 74 9 = nI (ts c k e)) (k1 : WD c k e w_went → K (some (.int 1)) (SH, A, B)) (k0 : ¬ WD c k e w_went → K (some (.int 0)) (SH, A, B)) : mCall E (d + 4) nX9_isWord [.ref 74, .ref 1039] (SH, A, B) K := by
  have hb := tk_b c he
  refine mCall_sem MX9_isWord rfl rfl (Or.inl ⟨rfl, rfl, rfl⟩) rfl (mSem_wp MX9_isWord rfl aX9_isWord 300 [32] (fun cl ax hcl hax => ?_))
  refine ⟨fun (c0 : ¬ A 74 9 = nI 1) => ?_, fun (c0 : A 74 9 = nI 1) => ?_⟩
  · rw [h9, nI_eq (by omega) (by omega)] at c0
    exact hax _ _ _ _ (lp_mw29 (d := d) hk he hc h7 k1 k0 (0, 0) ⟨by omega, Or.inr ⟨rfl, fun q => c0 q.1⟩⟩)
  rw [h9, nI_eq (by omega) (by omega)] at c0
  refine hcl _ _ _ _ (w_len29 ?_)
  have el : A 74 8 - A 74 7 = nI (te c k e - tb c k e) := by rw [h8, h7, pk_sub (by omega)]
  refine ⟨fun (c1 : ¬ A 74 8 - A 74 7 = nI 4) => ?_, fun (c1 : A 74 8 - A 74 7 = nI 4) => ?_⟩
  · rw [el, nI_eq (by omega) (by omega)] at c1
    exact hax _ _ _ _ (lp_mw29 (d := d) hk he hc h7 k1 k0 (0, 0) ⟨by omega, Or.inr ⟨rfl, fun q => c1 q.2.1⟩⟩)
  · rw [el, nI_eq (by omega) (by omega)] at c1
    exact hax _ _ _ _ (lp_mw29 (d := d) hk he hc h7 k1 k0 (0, 1) ⟨by omega, Or.inl ⟨rfl, c0, c1, fun i hi => absurd hi (by simp)⟩⟩)
theorem lp_xw7 {E : ME} {d : Nat} {A : Nat → Nat → Int32} {B : Nat → Nat → Int64} {K : MK} {c : Nat → Int32} {k e : Nat} (hk : k ≤ 120) (he : e ≤ k) (hc : ∀ j, j < k → A 63 j = c j) (h4 : A 45 4 = nI (tb c k e)) (t1 : ts c k e = 1) (tl : te c k e - tb c k e = 5) (k1 : WD c k e w_roped → K (some (.int 1)) (SH, A, B)) (k0 : ¬ WD c k e w_roped → K (some (.int 0)) (SH, A, B)) : ∀ j, (j ≤ 5 ∧ ∀ i, i < j → c (tb c k e + i) = w_roped.getD i 0) → mSem E (d + 4) nX6_isWord (SH, A, B) 0 0 K 28 [some (.ref 45), some (.ref 1017), some (.int (nI j))] [] (SH, A, B) := by
  have hb := tk_b c he
  refine mSem_loop (h0 := (SH, A, B)) MX6_isWord rfl aX6_isWord 300 [28] (fun j => [some (.ref 45), some (.ref 1017), some (.int (nI j))]) (fun j => (SH, A, B)) (fun j => j ≤ 5 ∧ ∀ i, i < j → c (tb c k e + i) = w_roped.getD i 0) (fun j => 5 - j) ?_
  rintro j ⟨hj, hI⟩ cl ax hcl hax hlp
  refine hcl _ _ _ _ (w_len7 ?_)
  refine ⟨fun (c0 : nI 5 ≤ nI j) => ?_, fun (c0 : ¬ nI 5 ≤ nI j) => ?_⟩
  · rw [nI_leI (by omega) (by omega)] at c0
    exact ⟨rfl, k1 ⟨t1, tl, fun i hi => hI i (by have hi : i < 5 := hi; omega)⟩⟩
  · rw [nI_leI (by omega) (by omega)] at c0
    have ei : A 45 4 + nI j = nI (tb c k e + j) := by rw [h4, nI_add]
    have e8 : (A 45 4 + nI j).toNatClampNeg = tb c k e + j := by rw [ei]; exact nI_clamp (by omega)
    refine ⟨show vp_in (A 45 4 + nI j) 120 by rw [ei]; exact vp_in_nI (by omega) (by decide), ?_⟩
    refine hcl _ _ _ _ (w_char7 j (by omega) ?_)
    have ec : A 63 (A 45 4 + nI j).toNatClampNeg = c (tb c k e + j) := by rw [e8]; exact hc _ (by omega)
    refine ⟨fun (c1 : A 63 (A 45 4 + nI j).toNatClampNeg = w_roped.getD j 0) => ?_, fun (c1 : ¬ A 63 (A 45 4 + nI j).toNatClampNeg = w_roped.getD j 0) => ?_⟩
    · rw [ec] at c1
      have this : ax 28 [some (.ref 45), some (.ref 1017), some (.int (nI (j + 1)))] [] (SH, A, B) := hlp (j + 1) ⟨by omega, fun i hi => by
        by_cases q : i = j
        · rw [q]; exact c1
        · exact hI i (by omega)⟩ (by omega)
      rw [← nI_1] at this
      exact this
    · rw [ec] at c1
      exact ⟨rfl, k0 (fun q => c1 (q.2.2 j (by show j < 5; omega)))⟩
theorem w_xw7 {E : ME} {d : Nat} {A : Nat → Nat → Int32} {B : Nat → Nat → Int64} {K : MK} {c : Nat → Int32} {k e : Nat} (hk : k ≤ 120) (he : e ≤ k) (hc : ∀ j, j < k → A 63 j = c j) (hT : TX c k (A 45) e) (k1 : WD c k e w_roped → K (some (.int 1)) (SH, A, B)) (k0 : ¬ WD c k e w_roped → K (some (.int 0)) (SH, A, B)) : mCall E (d + 4) nX6_isWord [.ref 45, .ref 1017] (SH, A, B) K := by
  obtain ⟨_, h3, h4, h5, _⟩ := hT
  have hb := tk_b c he
  refine mCall_sem MX6_isWord rfl rfl (Or.inl ⟨rfl, rfl, rfl⟩) rfl (mSem_wp MX6_isWord rfl aX6_isWord 300 [28] (fun cl ax hcl hax => ?_))
  refine ⟨fun (c0 : ¬ A 45 3 = 1) => ⟨rfl, k0 (fun q => c0 (by rw [h3]; exact (tx_1 he).mpr q.1))⟩, fun (c0 : A 45 3 = 1) => ?_⟩
  rw [h3, tx_1 he] at c0
  refine hcl _ _ _ _ (w_len7 ?_)
  have el : A 45 5 - A 45 4 = nI (te c k e - tb c k e) := by rw [h5, h4, pk_sub (by omega)]
  refine ⟨fun (c1 : A 45 5 - A 45 4 = nI 5) => ?_, fun (c1 : ¬ A 45 5 - A 45 4 = nI 5) => ⟨rfl, k0 (fun q => c1 (by rw [el, q.2.1]; rfl))⟩⟩
  rw [el, nI_eq (by omega) (by omega)] at c1
  exact hax _ _ _ _ (lp_xw7 (d := d) hk he hc h4 c0 c1 k1 k0 0 ⟨by omega, fun i hi => by omega⟩)
theorem lp_mw16 {E : ME} {d : Nat} {A : Nat → Nat → Int32} {B : Nat → Nat → Int64} {K : MK} {c : Nat → Int32} {k e : Nat} (hk : k ≤ 120) (he : e ≤ k) (hc : ∀ j, j < k → A 79 j = c j) (h7 : A 74 7 = nI (tb c k e)) (k1 : WD c k e w_roped → K (some (.int 1)) (SH, A, B)) (k0 : ¬ WD c k e w_roped → K (some (.int 0)) (SH, A, B)) : ∀ p : Nat × Int32, (p.1 ≤ 5 ∧ ((p.2 = 1 ∧ ts c k e = 1 ∧ te c k e - tb c k e = 5 ∧ ∀ i, i < p.1 → c (tb c k e + i) = w_roped.getD i 0) ∨ (p.2 = 0 ∧ ¬ WD c k e w_roped))) → mSem E (d + 4) nX9_isWord (SH, A, B) 0 0 K 32 [some (.ref 74), some (.ref 1026), some (.int p.2), some (.int (nI p.1))] [] (SH, A, B) := by
  have hb := tk_b c he
  refine mSem_loop (σ := Nat × Int32) (h0 := (SH, A, B)) MX9_isWord rfl aX9_isWord 300 [32] (fun p => [some (.ref 74), some (.ref 1026), some (.int p.2), some (.int (nI p.1))]) (fun p => (SH, A, B)) (fun p => p.1 ≤ 5 ∧ ((p.2 = 1 ∧ ts c k e = 1 ∧ te c k e - tb c k e = 5 ∧ ∀ i, i < p.1 → c (tb c k e + i) = w_roped.getD i 0) ∨ (p.2 = 0 ∧ ¬ WD c k e w_roped))) (fun p => 5 - p.1) ?_
  rintro ⟨j, z⟩ ⟨hj, hI⟩ cl ax hcl hax hlp
  have hj : j ≤ 5 := hj
  refine hcl _ _ _ _ (w_len16 ?_)
  rcases hI with ⟨z1, t1, tl, hI⟩ | ⟨z0, nw⟩
  · have z1 : z = 1 := z1
    subst z1
    have hI : ∀ i, i < j → c (tb c k e + i) = w_roped.getD i 0 := hI
    refine ⟨fun (c0 : nI 5 ≤ nI j) => ?_, fun (c0 : ¬ nI 5 ≤ nI j) => ?_⟩
    · rw [nI_leI (by omega) (by omega)] at c0
      exact ⟨show narrow .boolean (.int 1) = .int 1 from rfl, k1 ⟨t1, tl, fun i hi => hI i (by have hi : i < 5 := hi; omega)⟩⟩
    · rw [nI_leI (by omega) (by omega)] at c0
      refine ⟨fun (h9 : (1 : Int32) = 0) => absurd h9 (by decide), fun _ => ?_⟩
      have ei : A 74 7 + nI j = nI (tb c k e + j) := by rw [h7, nI_add]
      have e8 : (A 74 7 + nI j).toNatClampNeg = tb c k e + j := by rw [ei]; exact nI_clamp (by omega)
      refine ⟨show vp_in (A 74 7 + nI j) 120 by rw [ei]; exact vp_in_nI (by omega) (by decide), ?_⟩
      refine hcl _ _ _ _ (w_char16 j (by omega) ?_)
      have ec : A 79 (A 74 7 + nI j).toNatClampNeg = c (tb c k e + j) := by rw [e8]; exact hc _ (by omega)
      refine ⟨fun (c1 : ¬ A 79 (A 74 7 + nI j).toNatClampNeg = w_roped.getD j 0) => ?_, fun (c1 : A 79 (A 74 7 + nI j).toNatClampNeg = w_roped.getD j 0) => ?_⟩
      · rw [ec] at c1
        have this : ax 32 [some (.ref 74), some (.ref 1026), some (.int 0), some (.int (nI (j + 1)))] [] (SH, A, B) := hlp (j + 1, 0) ⟨by show j + 1 ≤ 5; omega, Or.inr ⟨rfl, fun q => c1 (q.2.2 j (by show j < 5; omega))⟩⟩ (by show 5 - (j + 1) < 5 - j; omega)
        rw [← nI_1] at this
        exact this
      · rw [ec] at c1
        have this : ax 32 [some (.ref 74), some (.ref 1026), some (.int 1), some (.int (nI (j + 1)))] [] (SH, A, B) := hlp (j + 1, 1) ⟨by show j + 1 ≤ 5; omega, Or.inl ⟨rfl, t1, tl, fun i hi => by
          have hi : i < j + 1 := hi
          by_cases q : i = j
          · rw [q]; exact c1
          · exact hI i (by omega)⟩⟩ (by show 5 - (j + 1) < 5 - j; omega)
        rw [← nI_1] at this
        exact this
  · have z0 : z = 0 := z0
    subst z0
    refine ⟨fun _ => ⟨show narrow .boolean (.int 0) = .int 0 from rfl, k0 nw⟩, fun _ => ?_⟩
    refine ⟨fun _ => ?_, fun (h9 : ¬ (0 : Int32) = 0) => absurd rfl h9⟩
    exact ⟨show narrow .boolean (.int 0) = .int 0 from rfl, k0 nw⟩
theorem w_mw16 {E : ME} {d : Nat} {A : Nat → Nat → Int32} {B : Nat → Nat → Int64} {K : MK} {c : Nat → Int32} {k e : Nat} (hk : k ≤ 120) (he : e ≤ k) (hc : ∀ j, j < k → A 79 j = c j) (h7 : A 74 7 = nI (tb c k e)) (h8 : A 74 8 = nI (te c k e)) (h9 : A 74 9 = nI (ts c k e)) (k1 : WD c k e w_roped → K (some (.int 1)) (SH, A, B)) (k0 : ¬ WD c k e w_roped → K (some (.int 0)) (SH, A, B)) : mCall E (d + 4) nX9_isWord [.ref 74, .ref 1026] (SH, A, B) K := by
  have hb := tk_b c he
  refine mCall_sem MX9_isWord rfl rfl (Or.inl ⟨rfl, rfl, rfl⟩) rfl (mSem_wp MX9_isWord rfl aX9_isWord 300 [32] (fun cl ax hcl hax => ?_))
  refine ⟨fun (c0 : ¬ A 74 9 = nI 1) => ?_, fun (c0 : A 74 9 = nI 1) => ?_⟩
  · rw [h9, nI_eq (by omega) (by omega)] at c0
    exact hax _ _ _ _ (lp_mw16 (d := d) hk he hc h7 k1 k0 (0, 0) ⟨by omega, Or.inr ⟨rfl, fun q => c0 q.1⟩⟩)
  rw [h9, nI_eq (by omega) (by omega)] at c0
  refine hcl _ _ _ _ (w_len16 ?_)
  have el : A 74 8 - A 74 7 = nI (te c k e - tb c k e) := by rw [h8, h7, pk_sub (by omega)]
  refine ⟨fun (c1 : ¬ A 74 8 - A 74 7 = nI 5) => ?_, fun (c1 : A 74 8 - A 74 7 = nI 5) => ?_⟩
  · rw [el, nI_eq (by omega) (by omega)] at c1
    exact hax _ _ _ _ (lp_mw16 (d := d) hk he hc h7 k1 k0 (0, 0) ⟨by omega, Or.inr ⟨rfl, fun q => c1 q.2.1⟩⟩)
  · rw [el, nI_eq (by omega) (by omega)] at c1
    exact hax _ _ _ _ (lp_mw16 (d := d) hk he hc h7 k1 k0 (0, 1) ⟨by omega, Or.inl ⟨rfl, c0, c1, fun i hi => absurd hi (by simp)⟩⟩)
theorem lp_xw8 {E : ME} {d : Nat} {A : Nat → Nat → Int32} {B : Nat → Nat → Int64} {K : MK} {c : Nat → Int32} {k e : Nat} (hk : k ≤ 120) (he : e ≤ k) (hc : ∀ j, j < k → A 63 j = c j) (h4 : A 45 4 = nI (tb c k e)) (t1 : ts c k e = 1) (tl : te c k e - tb c k e = 6) (k1 : WD c k e w_sledge → K (some (.int 1)) (SH, A, B)) (k0 : ¬ WD c k e w_sledge → K (some (.int 0)) (SH, A, B)) : ∀ j, (j ≤ 6 ∧ ∀ i, i < j → c (tb c k e + i) = w_sledge.getD i 0) → mSem E (d + 4) nX6_isWord (SH, A, B) 0 0 K 28 [some (.ref 45), some (.ref 1018), some (.int (nI j))] [] (SH, A, B) := by
  have hb := tk_b c he
  refine mSem_loop (h0 := (SH, A, B)) MX6_isWord rfl aX6_isWord 300 [28] (fun j => [some (.ref 45), some (.ref 1018), some (.int (nI j))]) (fun j => (SH, A, B)) (fun j => j ≤ 6 ∧ ∀ i, i < j → c (tb c k e + i) = w_sledge.getD i 0) (fun j => 6 - j) ?_
  rintro j ⟨hj, hI⟩ cl ax hcl hax hlp
  refine hcl _ _ _ _ (w_len8 ?_)
  refine ⟨fun (c0 : nI 6 ≤ nI j) => ?_, fun (c0 : ¬ nI 6 ≤ nI j) => ?_⟩
  · rw [nI_leI (by omega) (by omega)] at c0
    exact ⟨rfl, k1 ⟨t1, tl, fun i hi => hI i (by have hi : i < 6 := hi; omega)⟩⟩
  · rw [nI_leI (by omega) (by omega)] at c0
    have ei : A 45 4 + nI j = nI (tb c k e + j) := by rw [h4, nI_add]
    have e8 : (A 45 4 + nI j).toNatClampNeg = tb c k e + j := by rw [ei]; exact nI_clamp (by omega)
    refine ⟨show vp_in (A 45 4 + nI j) 120 by rw [ei]; exact vp_in_nI (by omega) (by decide), ?_⟩
    refine hcl _ _ _ _ (w_char8 j (by omega) ?_)
    have ec : A 63 (A 45 4 + nI j).toNatClampNeg = c (tb c k e + j) := by rw [e8]; exact hc _ (by omega)
    refine ⟨fun (c1 : A 63 (A 45 4 + nI j).toNatClampNeg = w_sledge.getD j 0) => ?_, fun (c1 : ¬ A 63 (A 45 4 + nI j).toNatClampNeg = w_sledge.getD j 0) => ?_⟩
    · rw [ec] at c1
      have this : ax 28 [some (.ref 45), some (.ref 1018), some (.int (nI (j + 1)))] [] (SH, A, B) := hlp (j + 1) ⟨by omega, fun i hi => by
        by_cases q : i = j
        · rw [q]; exact c1
        · exact hI i (by omega)⟩ (by omega)
      rw [← nI_1] at this
      exact this
    · rw [ec] at c1
      exact ⟨rfl, k0 (fun q => c1 (q.2.2 j (by show j < 6; omega)))⟩
theorem w_xw8 {E : ME} {d : Nat} {A : Nat → Nat → Int32} {B : Nat → Nat → Int64} {K : MK} {c : Nat → Int32} {k e : Nat} (hk : k ≤ 120) (he : e ≤ k) (hc : ∀ j, j < k → A 63 j = c j) (hT : TX c k (A 45) e) (k1 : WD c k e w_sledge → K (some (.int 1)) (SH, A, B)) (k0 : ¬ WD c k e w_sledge → K (some (.int 0)) (SH, A, B)) : mCall E (d + 4) nX6_isWord [.ref 45, .ref 1018] (SH, A, B) K := by
  obtain ⟨_, h3, h4, h5, _⟩ := hT
  have hb := tk_b c he
  refine mCall_sem MX6_isWord rfl rfl (Or.inl ⟨rfl, rfl, rfl⟩) rfl (mSem_wp MX6_isWord rfl aX6_isWord 300 [28] (fun cl ax hcl hax => ?_))
  refine ⟨fun (c0 : ¬ A 45 3 = 1) => ⟨rfl, k0 (fun q => c0 (by rw [h3]; exact (tx_1 he).mpr q.1))⟩, fun (c0 : A 45 3 = 1) => ?_⟩
  rw [h3, tx_1 he] at c0
  refine hcl _ _ _ _ (w_len8 ?_)
  have el : A 45 5 - A 45 4 = nI (te c k e - tb c k e) := by rw [h5, h4, pk_sub (by omega)]
  refine ⟨fun (c1 : A 45 5 - A 45 4 = nI 6) => ?_, fun (c1 : ¬ A 45 5 - A 45 4 = nI 6) => ⟨rfl, k0 (fun q => c1 (by rw [el, q.2.1]; rfl))⟩⟩
  rw [el, nI_eq (by omega) (by omega)] at c1
  exact hax _ _ _ _ (lp_xw8 (d := d) hk he hc h4 c0 c1 k1 k0 0 ⟨by omega, fun i hi => by omega⟩)
theorem lp_mw17 {E : ME} {d : Nat} {A : Nat → Nat → Int32} {B : Nat → Nat → Int64} {K : MK} {c : Nat → Int32} {k e : Nat} (hk : k ≤ 120) (he : e ≤ k) (hc : ∀ j, j < k → A 79 j = c j) (h7 : A 74 7 = nI (tb c k e)) (k1 : WD c k e w_sledge → K (some (.int 1)) (SH, A, B)) (k0 : ¬ WD c k e w_sledge → K (some (.int 0)) (SH, A, B)) : ∀ p : Nat × Int32, (p.1 ≤ 6 ∧ ((p.2 = 1 ∧ ts c k e = 1 ∧ te c k e - tb c k e = 6 ∧ ∀ i, i < p.1 → c (tb c k e + i) = w_sledge.getD i 0) ∨ (p.2 = 0 ∧ ¬ WD c k e w_sledge))) → mSem E (d + 4) nX9_isWord (SH, A, B) 0 0 K 32 [some (.ref 74), some (.ref 1027), some (.int p.2), some (.int (nI p.1))] [] (SH, A, B) := by
  have hb := tk_b c he
  refine mSem_loop (σ := Nat × Int32) (h0 := (SH, A, B)) MX9_isWord rfl aX9_isWord 300 [32] (fun p => [some (.ref 74), some (.ref 1027), some (.int p.2), some (.int (nI p.1))]) (fun p => (SH, A, B)) (fun p => p.1 ≤ 6 ∧ ((p.2 = 1 ∧ ts c k e = 1 ∧ te c k e - tb c k e = 6 ∧ ∀ i, i < p.1 → c (tb c k e + i) = w_sledge.getD i 0) ∨ (p.2 = 0 ∧ ¬ WD c k e w_sledge))) (fun p => 6 - p.1) ?_
  rintro ⟨j, z⟩ ⟨hj, hI⟩ cl ax hcl hax hlp
  have hj : j ≤ 6 := hj
  refine hcl _ _ _ _ (w_len17 ?_)
  rcases hI with ⟨z1, t1, tl, hI⟩ | ⟨z0, nw⟩
  · have z1 : z = 1 := z1
    subst z1
    have hI : ∀ i, i < j → c (tb c k e + i) = w_sledge.getD i 0 := hI
    refine ⟨fun (c0 : nI 6 ≤ nI j) => ?_, fun (c0 : ¬ nI 6 ≤ nI j) => ?_⟩
    · rw [nI_leI (by omega) (by omega)] at c0
      exact ⟨show narrow .boolean (.int 1) = .int 1 from rfl, k1 ⟨t1, tl, fun i hi => hI i (by have hi : i < 6 := hi; omega)⟩⟩
    · rw [nI_leI (by omega) (by omega)] at c0
      refine ⟨fun (h9 : (1 : Int32) = 0) => absurd h9 (by decide), fun _ => ?_⟩
      have ei : A 74 7 + nI j = nI (tb c k e + j) := by rw [h7, nI_add]
      have e8 : (A 74 7 + nI j).toNatClampNeg = tb c k e + j := by rw [ei]; exact nI_clamp (by omega)
      refine ⟨show vp_in (A 74 7 + nI j) 120 by rw [ei]; exact vp_in_nI (by omega) (by decide), ?_⟩
      refine hcl _ _ _ _ (w_char17 j (by omega) ?_)
      have ec : A 79 (A 74 7 + nI j).toNatClampNeg = c (tb c k e + j) := by rw [e8]; exact hc _ (by omega)
      refine ⟨fun (c1 : ¬ A 79 (A 74 7 + nI j).toNatClampNeg = w_sledge.getD j 0) => ?_, fun (c1 : A 79 (A 74 7 + nI j).toNatClampNeg = w_sledge.getD j 0) => ?_⟩
      · rw [ec] at c1
        have this : ax 32 [some (.ref 74), some (.ref 1027), some (.int 0), some (.int (nI (j + 1)))] [] (SH, A, B) := hlp (j + 1, 0) ⟨by show j + 1 ≤ 6; omega, Or.inr ⟨rfl, fun q => c1 (q.2.2 j (by show j < 6; omega))⟩⟩ (by show 6 - (j + 1) < 6 - j; omega)
        rw [← nI_1] at this
        exact this
      · rw [ec] at c1
        have this : ax 32 [some (.ref 74), some (.ref 1027), some (.int 1), some (.int (nI (j + 1)))] [] (SH, A, B) := hlp (j + 1, 1) ⟨by show j + 1 ≤ 6; omega, Or.inl ⟨rfl, t1, tl, fun i hi => by
          have hi : i < j + 1 := hi
          by_cases q : i = j
          · rw [q]; exact c1
          · exact hI i (by omega)⟩⟩ (by show 6 - (j + 1) < 6 - j; omega)
        rw [← nI_1] at this
        exact this
  · have z0 : z = 0 := z0
    subst z0
    refine ⟨fun _ => ⟨show narrow .boolean (.int 0) = .int 0 from rfl, k0 nw⟩, fun _ => ?_⟩
    refine ⟨fun _ => ?_, fun (h9 : ¬ (0 : Int32) = 0) => absurd rfl h9⟩
    exact ⟨show narrow .boolean (.int 0) = .int 0 from rfl, k0 nw⟩
theorem w_mw17 {E : ME} {d : Nat} {A : Nat → Nat → Int32} {B : Nat → Nat → Int64} {K : MK} {c : Nat → Int32} {k e : Nat} (hk : k ≤ 120) (he : e ≤ k) (hc : ∀ j, j < k → A 79 j = c j) (h7 : A 74 7 = nI (tb c k e)) (h8 : A 74 8 = nI (te c k e)) (h9 : A 74 9 = nI (ts c k e)) (k1 : WD c k e w_sledge → K (some (.int 1)) (SH, A, B)) (k0 : ¬ WD c k e w_sledge → K (some (.int 0)) (SH, A, B)) : mCall E (d + 4) nX9_isWord [.ref 74, .ref 1027] (SH, A, B) K := by
  have hb := tk_b c he
  refine mCall_sem MX9_isWord rfl rfl (Or.inl ⟨rfl, rfl, rfl⟩) rfl (mSem_wp MX9_isWord rfl aX9_isWord 300 [32] (fun cl ax hcl hax => ?_))
  refine ⟨fun (c0 : ¬ A 74 9 = nI 1) => ?_, fun (c0 : A 74 9 = nI 1) => ?_⟩
  · rw [h9, nI_eq (by omega) (by omega)] at c0
    exact hax _ _ _ _ (lp_mw17 (d := d) hk he hc h7 k1 k0 (0, 0) ⟨by omega, Or.inr ⟨rfl, fun q => c0 q.1⟩⟩)
  rw [h9, nI_eq (by omega) (by omega)] at c0
  refine hcl _ _ _ _ (w_len17 ?_)
  have el : A 74 8 - A 74 7 = nI (te c k e - tb c k e) := by rw [h8, h7, pk_sub (by omega)]
  refine ⟨fun (c1 : ¬ A 74 8 - A 74 7 = nI 6) => ?_, fun (c1 : A 74 8 - A 74 7 = nI 6) => ?_⟩
  · rw [el, nI_eq (by omega) (by omega)] at c1
    exact hax _ _ _ _ (lp_mw17 (d := d) hk he hc h7 k1 k0 (0, 0) ⟨by omega, Or.inr ⟨rfl, fun q => c1 q.2.1⟩⟩)
  · rw [el, nI_eq (by omega) (by omega)] at c1
    exact hax _ _ _ _ (lp_mw17 (d := d) hk he hc h7 k1 k0 (0, 1) ⟨by omega, Or.inl ⟨rfl, c0, c1, fun i hi => absurd hi (by simp)⟩⟩)
theorem lp_xw9 {E : ME} {d : Nat} {A : Nat → Nat → Int32} {B : Nat → Nat → Int64} {K : MK} {c : Nat → Int32} {k e : Nat} (hk : k ≤ 120) (he : e ≤ k) (hc : ∀ j, j < k → A 63 j = c j) (h4 : A 45 4 = nI (tb c k e)) (t1 : ts c k e = 1) (tl : te c k e - tb c k e = 6) (k1 : WD c k e w_church → K (some (.int 1)) (SH, A, B)) (k0 : ¬ WD c k e w_church → K (some (.int 0)) (SH, A, B)) : ∀ j, (j ≤ 6 ∧ ∀ i, i < j → c (tb c k e + i) = w_church.getD i 0) → mSem E (d + 4) nX6_isWord (SH, A, B) 0 0 K 28 [some (.ref 45), some (.ref 1019), some (.int (nI j))] [] (SH, A, B) := by
  have hb := tk_b c he
  refine mSem_loop (h0 := (SH, A, B)) MX6_isWord rfl aX6_isWord 300 [28] (fun j => [some (.ref 45), some (.ref 1019), some (.int (nI j))]) (fun j => (SH, A, B)) (fun j => j ≤ 6 ∧ ∀ i, i < j → c (tb c k e + i) = w_church.getD i 0) (fun j => 6 - j) ?_
  rintro j ⟨hj, hI⟩ cl ax hcl hax hlp
  refine hcl _ _ _ _ (w_len9 ?_)
  refine ⟨fun (c0 : nI 6 ≤ nI j) => ?_, fun (c0 : ¬ nI 6 ≤ nI j) => ?_⟩
  · rw [nI_leI (by omega) (by omega)] at c0
    exact ⟨rfl, k1 ⟨t1, tl, fun i hi => hI i (by have hi : i < 6 := hi; omega)⟩⟩
  · rw [nI_leI (by omega) (by omega)] at c0
    have ei : A 45 4 + nI j = nI (tb c k e + j) := by rw [h4, nI_add]
    have e8 : (A 45 4 + nI j).toNatClampNeg = tb c k e + j := by rw [ei]; exact nI_clamp (by omega)
    refine ⟨show vp_in (A 45 4 + nI j) 120 by rw [ei]; exact vp_in_nI (by omega) (by decide), ?_⟩
    refine hcl _ _ _ _ (w_char9 j (by omega) ?_)
    have ec : A 63 (A 45 4 + nI j).toNatClampNeg = c (tb c k e + j) := by rw [e8]; exact hc _ (by omega)
    refine ⟨fun (c1 : A 63 (A 45 4 + nI j).toNatClampNeg = w_church.getD j 0) => ?_, fun (c1 : ¬ A 63 (A 45 4 + nI j).toNatClampNeg = w_church.getD j 0) => ?_⟩
    · rw [ec] at c1
      have this : ax 28 [some (.ref 45), some (.ref 1019), some (.int (nI (j + 1)))] [] (SH, A, B) := hlp (j + 1) ⟨by omega, fun i hi => by
        by_cases q : i = j
        · rw [q]; exact c1
        · exact hI i (by omega)⟩ (by omega)
      rw [← nI_1] at this
      exact this
    · rw [ec] at c1
      exact ⟨rfl, k0 (fun q => c1 (q.2.2 j (by show j < 6; omega)))⟩
theorem w_xw9 {E : ME} {d : Nat} {A : Nat → Nat → Int32} {B : Nat → Nat → Int64} {K : MK} {c : Nat → Int32} {k e : Nat} (hk : k ≤ 120) (he : e ≤ k) (hc : ∀ j, j < k → A 63 j = c j) (hT : TX c k (A 45) e) (k1 : WD c k e w_church → K (some (.int 1)) (SH, A, B)) (k0 : ¬ WD c k e w_church → K (some (.int 0)) (SH, A, B)) : mCall E (d + 4) nX6_isWord [.ref 45, .ref 1019] (SH, A, B) K := by
  obtain ⟨_, h3, h4, h5, _⟩ := hT
  have hb := tk_b c he
  refine mCall_sem MX6_isWord rfl rfl (Or.inl ⟨rfl, rfl, rfl⟩) rfl (mSem_wp MX6_isWord rfl aX6_isWord 300 [28] (fun cl ax hcl hax => ?_))
  refine ⟨fun (c0 : ¬ A 45 3 = 1) => ⟨rfl, k0 (fun q => c0 (by rw [h3]; exact (tx_1 he).mpr q.1))⟩, fun (c0 : A 45 3 = 1) => ?_⟩
  rw [h3, tx_1 he] at c0
  refine hcl _ _ _ _ (w_len9 ?_)
  have el : A 45 5 - A 45 4 = nI (te c k e - tb c k e) := by rw [h5, h4, pk_sub (by omega)]
  refine ⟨fun (c1 : A 45 5 - A 45 4 = nI 6) => ?_, fun (c1 : ¬ A 45 5 - A 45 4 = nI 6) => ⟨rfl, k0 (fun q => c1 (by rw [el, q.2.1]; rfl))⟩⟩
  rw [el, nI_eq (by omega) (by omega)] at c1
  exact hax _ _ _ _ (lp_xw9 (d := d) hk he hc h4 c0 c1 k1 k0 0 ⟨by omega, fun i hi => by omega⟩)
theorem lp_mw18 {E : ME} {d : Nat} {A : Nat → Nat → Int32} {B : Nat → Nat → Int64} {K : MK} {c : Nat → Int32} {k e : Nat} (hk : k ≤ 120) (he : e ≤ k) (hc : ∀ j, j < k → A 79 j = c j) (h7 : A 74 7 = nI (tb c k e)) (k1 : WD c k e w_church → K (some (.int 1)) (SH, A, B)) (k0 : ¬ WD c k e w_church → K (some (.int 0)) (SH, A, B)) : ∀ p : Nat × Int32, (p.1 ≤ 6 ∧ ((p.2 = 1 ∧ ts c k e = 1 ∧ te c k e - tb c k e = 6 ∧ ∀ i, i < p.1 → c (tb c k e + i) = w_church.getD i 0) ∨ (p.2 = 0 ∧ ¬ WD c k e w_church))) → mSem E (d + 4) nX9_isWord (SH, A, B) 0 0 K 32 [some (.ref 74), some (.ref 1028), some (.int p.2), some (.int (nI p.1))] [] (SH, A, B) := by
  have hb := tk_b c he
  refine mSem_loop (σ := Nat × Int32) (h0 := (SH, A, B)) MX9_isWord rfl aX9_isWord 300 [32] (fun p => [some (.ref 74), some (.ref 1028), some (.int p.2), some (.int (nI p.1))]) (fun p => (SH, A, B)) (fun p => p.1 ≤ 6 ∧ ((p.2 = 1 ∧ ts c k e = 1 ∧ te c k e - tb c k e = 6 ∧ ∀ i, i < p.1 → c (tb c k e + i) = w_church.getD i 0) ∨ (p.2 = 0 ∧ ¬ WD c k e w_church))) (fun p => 6 - p.1) ?_
  rintro ⟨j, z⟩ ⟨hj, hI⟩ cl ax hcl hax hlp
  have hj : j ≤ 6 := hj
  refine hcl _ _ _ _ (w_len18 ?_)
  rcases hI with ⟨z1, t1, tl, hI⟩ | ⟨z0, nw⟩
  · have z1 : z = 1 := z1
    subst z1
    have hI : ∀ i, i < j → c (tb c k e + i) = w_church.getD i 0 := hI
    refine ⟨fun (c0 : nI 6 ≤ nI j) => ?_, fun (c0 : ¬ nI 6 ≤ nI j) => ?_⟩
    · rw [nI_leI (by omega) (by omega)] at c0
      exact ⟨show narrow .boolean (.int 1) = .int 1 from rfl, k1 ⟨t1, tl, fun i hi => hI i (by have hi : i < 6 := hi; omega)⟩⟩
    · rw [nI_leI (by omega) (by omega)] at c0
      refine ⟨fun (h9 : (1 : Int32) = 0) => absurd h9 (by decide), fun _ => ?_⟩
      have ei : A 74 7 + nI j = nI (tb c k e + j) := by rw [h7, nI_add]
      have e8 : (A 74 7 + nI j).toNatClampNeg = tb c k e + j := by rw [ei]; exact nI_clamp (by omega)
      refine ⟨show vp_in (A 74 7 + nI j) 120 by rw [ei]; exact vp_in_nI (by omega) (by decide), ?_⟩
      refine hcl _ _ _ _ (w_char18 j (by omega) ?_)
      have ec : A 79 (A 74 7 + nI j).toNatClampNeg = c (tb c k e + j) := by rw [e8]; exact hc _ (by omega)
      refine ⟨fun (c1 : ¬ A 79 (A 74 7 + nI j).toNatClampNeg = w_church.getD j 0) => ?_, fun (c1 : A 79 (A 74 7 + nI j).toNatClampNeg = w_church.getD j 0) => ?_⟩
      · rw [ec] at c1
        have this : ax 32 [some (.ref 74), some (.ref 1028), some (.int 0), some (.int (nI (j + 1)))] [] (SH, A, B) := hlp (j + 1, 0) ⟨by show j + 1 ≤ 6; omega, Or.inr ⟨rfl, fun q => c1 (q.2.2 j (by show j < 6; omega))⟩⟩ (by show 6 - (j + 1) < 6 - j; omega)
        rw [← nI_1] at this
        exact this
      · rw [ec] at c1
        have this : ax 32 [some (.ref 74), some (.ref 1028), some (.int 1), some (.int (nI (j + 1)))] [] (SH, A, B) := hlp (j + 1, 1) ⟨by show j + 1 ≤ 6; omega, Or.inl ⟨rfl, t1, tl, fun i hi => by
          have hi : i < j + 1 := hi
          by_cases q : i = j
          · rw [q]; exact c1
          · exact hI i (by omega)⟩⟩ (by show 6 - (j + 1) < 6 - j; omega)
        rw [← nI_1] at this
        exact this
  · have z0 : z = 0 := z0
    subst z0
    refine ⟨fun _ => ⟨show narrow .boolean (.int 0) = .int 0 from rfl, k0 nw⟩, fun _ => ?_⟩
    refine ⟨fun _ => ?_, fun (h9 : ¬ (0 : Int32) = 0) => absurd rfl h9⟩
    exact ⟨show narrow .boolean (.int 0) = .int 0 from rfl, k0 nw⟩
theorem w_mw18 {E : ME} {d : Nat} {A : Nat → Nat → Int32} {B : Nat → Nat → Int64} {K : MK} {c : Nat → Int32} {k e : Nat} (hk : k ≤ 120) (he : e ≤ k) (hc : ∀ j, j < k → A 79 j = c j) (h7 : A 74 7 = nI (tb c k e)) (h8 : A 74 8 = nI (te c k e)) (h9 : A 74 9 = nI (ts c k e)) (k1 : WD c k e w_church → K (some (.int 1)) (SH, A, B)) (k0 : ¬ WD c k e w_church → K (some (.int 0)) (SH, A, B)) : mCall E (d + 4) nX9_isWord [.ref 74, .ref 1028] (SH, A, B) K := by
  have hb := tk_b c he
  refine mCall_sem MX9_isWord rfl rfl (Or.inl ⟨rfl, rfl, rfl⟩) rfl (mSem_wp MX9_isWord rfl aX9_isWord 300 [32] (fun cl ax hcl hax => ?_))
  refine ⟨fun (c0 : ¬ A 74 9 = nI 1) => ?_, fun (c0 : A 74 9 = nI 1) => ?_⟩
  · rw [h9, nI_eq (by omega) (by omega)] at c0
    exact hax _ _ _ _ (lp_mw18 (d := d) hk he hc h7 k1 k0 (0, 0) ⟨by omega, Or.inr ⟨rfl, fun q => c0 q.1⟩⟩)
  rw [h9, nI_eq (by omega) (by omega)] at c0
  refine hcl _ _ _ _ (w_len18 ?_)
  have el : A 74 8 - A 74 7 = nI (te c k e - tb c k e) := by rw [h8, h7, pk_sub (by omega)]
  refine ⟨fun (c1 : ¬ A 74 8 - A 74 7 = nI 6) => ?_, fun (c1 : A 74 8 - A 74 7 = nI 6) => ?_⟩
  · rw [el, nI_eq (by omega) (by omega)] at c1
    exact hax _ _ _ _ (lp_mw18 (d := d) hk he hc h7 k1 k0 (0, 0) ⟨by omega, Or.inr ⟨rfl, fun q => c1 q.2.1⟩⟩)
  · rw [el, nI_eq (by omega) (by omega)] at c1
    exact hax _ _ _ _ (lp_mw18 (d := d) hk he hc h7 k1 k0 (0, 1) ⟨by omega, Or.inl ⟨rfl, c0, c1, fun i hi => absurd hi (by simp)⟩⟩)
theorem lp_xw10 {E : ME} {d : Nat} {A : Nat → Nat → Int32} {B : Nat → Nat → Int64} {K : MK} {c : Nat → Int32} {k e : Nat} (hk : k ≤ 120) (he : e ≤ k) (hc : ∀ j, j < k → A 63 j = c j) (h4 : A 45 4 = nI (tb c k e)) (t1 : ts c k e = 1) (tl : te c k e - tb c k e = 5) (k1 : WD c k e w_ferry → K (some (.int 1)) (SH, A, B)) (k0 : ¬ WD c k e w_ferry → K (some (.int 0)) (SH, A, B)) : ∀ j, (j ≤ 5 ∧ ∀ i, i < j → c (tb c k e + i) = w_ferry.getD i 0) → mSem E (d + 4) nX6_isWord (SH, A, B) 0 0 K 28 [some (.ref 45), some (.ref 1020), some (.int (nI j))] [] (SH, A, B) := by
  have hb := tk_b c he
  refine mSem_loop (h0 := (SH, A, B)) MX6_isWord rfl aX6_isWord 300 [28] (fun j => [some (.ref 45), some (.ref 1020), some (.int (nI j))]) (fun j => (SH, A, B)) (fun j => j ≤ 5 ∧ ∀ i, i < j → c (tb c k e + i) = w_ferry.getD i 0) (fun j => 5 - j) ?_
  rintro j ⟨hj, hI⟩ cl ax hcl hax hlp
  refine hcl _ _ _ _ (w_len10 ?_)
  refine ⟨fun (c0 : nI 5 ≤ nI j) => ?_, fun (c0 : ¬ nI 5 ≤ nI j) => ?_⟩
  · rw [nI_leI (by omega) (by omega)] at c0
    exact ⟨rfl, k1 ⟨t1, tl, fun i hi => hI i (by have hi : i < 5 := hi; omega)⟩⟩
  · rw [nI_leI (by omega) (by omega)] at c0
    have ei : A 45 4 + nI j = nI (tb c k e + j) := by rw [h4, nI_add]
    have e8 : (A 45 4 + nI j).toNatClampNeg = tb c k e + j := by rw [ei]; exact nI_clamp (by omega)
    refine ⟨show vp_in (A 45 4 + nI j) 120 by rw [ei]; exact vp_in_nI (by omega) (by decide), ?_⟩
    refine hcl _ _ _ _ (w_char10 j (by omega) ?_)
    have ec : A 63 (A 45 4 + nI j).toNatClampNeg = c (tb c k e + j) := by rw [e8]; exact hc _ (by omega)
    refine ⟨fun (c1 : A 63 (A 45 4 + nI j).toNatClampNeg = w_ferry.getD j 0) => ?_, fun (c1 : ¬ A 63 (A 45 4 + nI j).toNatClampNeg = w_ferry.getD j 0) => ?_⟩
    · rw [ec] at c1
      have this : ax 28 [some (.ref 45), some (.ref 1020), some (.int (nI (j + 1)))] [] (SH, A, B) := hlp (j + 1) ⟨by omega, fun i hi => by
        by_cases q : i = j
        · rw [q]; exact c1
        · exact hI i (by omega)⟩ (by omega)
      rw [← nI_1] at this
      exact this
    · rw [ec] at c1
      exact ⟨rfl, k0 (fun q => c1 (q.2.2 j (by show j < 5; omega)))⟩
theorem w_xw10 {E : ME} {d : Nat} {A : Nat → Nat → Int32} {B : Nat → Nat → Int64} {K : MK} {c : Nat → Int32} {k e : Nat} (hk : k ≤ 120) (he : e ≤ k) (hc : ∀ j, j < k → A 63 j = c j) (hT : TX c k (A 45) e) (k1 : WD c k e w_ferry → K (some (.int 1)) (SH, A, B)) (k0 : ¬ WD c k e w_ferry → K (some (.int 0)) (SH, A, B)) : mCall E (d + 4) nX6_isWord [.ref 45, .ref 1020] (SH, A, B) K := by
  obtain ⟨_, h3, h4, h5, _⟩ := hT
  have hb := tk_b c he
  refine mCall_sem MX6_isWord rfl rfl (Or.inl ⟨rfl, rfl, rfl⟩) rfl (mSem_wp MX6_isWord rfl aX6_isWord 300 [28] (fun cl ax hcl hax => ?_))
  refine ⟨fun (c0 : ¬ A 45 3 = 1) => ⟨rfl, k0 (fun q => c0 (by rw [h3]; exact (tx_1 he).mpr q.1))⟩, fun (c0 : A 45 3 = 1) => ?_⟩
  rw [h3, tx_1 he] at c0
  refine hcl _ _ _ _ (w_len10 ?_)
  have el : A 45 5 - A 45 4 = nI (te c k e - tb c k e) := by rw [h5, h4, pk_sub (by omega)]
  refine ⟨fun (c1 : A 45 5 - A 45 4 = nI 5) => ?_, fun (c1 : ¬ A 45 5 - A 45 4 = nI 5) => ⟨rfl, k0 (fun q => c1 (by rw [el, q.2.1]; rfl))⟩⟩
  rw [el, nI_eq (by omega) (by omega)] at c1
  exact hax _ _ _ _ (lp_xw10 (d := d) hk he hc h4 c0 c1 k1 k0 0 ⟨by omega, fun i hi => by omega⟩)
theorem lp_mw19 {E : ME} {d : Nat} {A : Nat → Nat → Int32} {B : Nat → Nat → Int64} {K : MK} {c : Nat → Int32} {k e : Nat} (hk : k ≤ 120) (he : e ≤ k) (hc : ∀ j, j < k → A 79 j = c j) (h7 : A 74 7 = nI (tb c k e)) (k1 : WD c k e w_ferry → K (some (.int 1)) (SH, A, B)) (k0 : ¬ WD c k e w_ferry → K (some (.int 0)) (SH, A, B)) : ∀ p : Nat × Int32, (p.1 ≤ 5 ∧ ((p.2 = 1 ∧ ts c k e = 1 ∧ te c k e - tb c k e = 5 ∧ ∀ i, i < p.1 → c (tb c k e + i) = w_ferry.getD i 0) ∨ (p.2 = 0 ∧ ¬ WD c k e w_ferry))) → mSem E (d + 4) nX9_isWord (SH, A, B) 0 0 K 32 [some (.ref 74), some (.ref 1029), some (.int p.2), some (.int (nI p.1))] [] (SH, A, B) := by
  have hb := tk_b c he
  refine mSem_loop (σ := Nat × Int32) (h0 := (SH, A, B)) MX9_isWord rfl aX9_isWord 300 [32] (fun p => [some (.ref 74), some (.ref 1029), some (.int p.2), some (.int (nI p.1))]) (fun p => (SH, A, B)) (fun p => p.1 ≤ 5 ∧ ((p.2 = 1 ∧ ts c k e = 1 ∧ te c k e - tb c k e = 5 ∧ ∀ i, i < p.1 → c (tb c k e + i) = w_ferry.getD i 0) ∨ (p.2 = 0 ∧ ¬ WD c k e w_ferry))) (fun p => 5 - p.1) ?_
  rintro ⟨j, z⟩ ⟨hj, hI⟩ cl ax hcl hax hlp
  have hj : j ≤ 5 := hj
  refine hcl _ _ _ _ (w_len19 ?_)
  rcases hI with ⟨z1, t1, tl, hI⟩ | ⟨z0, nw⟩
  · have z1 : z = 1 := z1
    subst z1
    have hI : ∀ i, i < j → c (tb c k e + i) = w_ferry.getD i 0 := hI
    refine ⟨fun (c0 : nI 5 ≤ nI j) => ?_, fun (c0 : ¬ nI 5 ≤ nI j) => ?_⟩
    · rw [nI_leI (by omega) (by omega)] at c0
      exact ⟨show narrow .boolean (.int 1) = .int 1 from rfl, k1 ⟨t1, tl, fun i hi => hI i (by have hi : i < 5 := hi; omega)⟩⟩
    · rw [nI_leI (by omega) (by omega)] at c0
      refine ⟨fun (h9 : (1 : Int32) = 0) => absurd h9 (by decide), fun _ => ?_⟩
      have ei : A 74 7 + nI j = nI (tb c k e + j) := by rw [h7, nI_add]
      have e8 : (A 74 7 + nI j).toNatClampNeg = tb c k e + j := by rw [ei]; exact nI_clamp (by omega)
      refine ⟨show vp_in (A 74 7 + nI j) 120 by rw [ei]; exact vp_in_nI (by omega) (by decide), ?_⟩
      refine hcl _ _ _ _ (w_char19 j (by omega) ?_)
      have ec : A 79 (A 74 7 + nI j).toNatClampNeg = c (tb c k e + j) := by rw [e8]; exact hc _ (by omega)
      refine ⟨fun (c1 : ¬ A 79 (A 74 7 + nI j).toNatClampNeg = w_ferry.getD j 0) => ?_, fun (c1 : A 79 (A 74 7 + nI j).toNatClampNeg = w_ferry.getD j 0) => ?_⟩
      · rw [ec] at c1
        have this : ax 32 [some (.ref 74), some (.ref 1029), some (.int 0), some (.int (nI (j + 1)))] [] (SH, A, B) := hlp (j + 1, 0) ⟨by show j + 1 ≤ 5; omega, Or.inr ⟨rfl, fun q => c1 (q.2.2 j (by show j < 5; omega))⟩⟩ (by show 5 - (j + 1) < 5 - j; omega)
        rw [← nI_1] at this
        exact this
      · rw [ec] at c1
        have this : ax 32 [some (.ref 74), some (.ref 1029), some (.int 1), some (.int (nI (j + 1)))] [] (SH, A, B) := hlp (j + 1, 1) ⟨by show j + 1 ≤ 5; omega, Or.inl ⟨rfl, t1, tl, fun i hi => by
          have hi : i < j + 1 := hi
          by_cases q : i = j
          · rw [q]; exact c1
          · exact hI i (by omega)⟩⟩ (by show 5 - (j + 1) < 5 - j; omega)
        rw [← nI_1] at this
        exact this
  · have z0 : z = 0 := z0
    subst z0
    refine ⟨fun _ => ⟨show narrow .boolean (.int 0) = .int 0 from rfl, k0 nw⟩, fun _ => ?_⟩
    refine ⟨fun _ => ?_, fun (h9 : ¬ (0 : Int32) = 0) => absurd rfl h9⟩
    exact ⟨show narrow .boolean (.int 0) = .int 0 from rfl, k0 nw⟩
theorem w_mw19 {E : ME} {d : Nat} {A : Nat → Nat → Int32} {B : Nat → Nat → Int64} {K : MK} {c : Nat → Int32} {k e : Nat} (hk : k ≤ 120) (he : e ≤ k) (hc : ∀ j, j < k → A 79 j = c j) (h7 : A 74 7 = nI (tb c k e)) (h8 : A 74 8 = nI (te c k e)) (h9 : A 74 9 = nI (ts c k e)) (k1 : WD c k e w_ferry → K (some (.int 1)) (SH, A, B)) (k0 : ¬ WD c k e w_ferry → K (some (.int 0)) (SH, A, B)) : mCall E (d + 4) nX9_isWord [.ref 74, .ref 1029] (SH, A, B) K := by
  have hb := tk_b c he
  refine mCall_sem MX9_isWord rfl rfl (Or.inl ⟨rfl, rfl, rfl⟩) rfl (mSem_wp MX9_isWord rfl aX9_isWord 300 [32] (fun cl ax hcl hax => ?_))
  refine ⟨fun (c0 : ¬ A 74 9 = nI 1) => ?_, fun (c0 : A 74 9 = nI 1) => ?_⟩
  · rw [h9, nI_eq (by omega) (by omega)] at c0
    exact hax _ _ _ _ (lp_mw19 (d := d) hk he hc h7 k1 k0 (0, 0) ⟨by omega, Or.inr ⟨rfl, fun q => c0 q.1⟩⟩)
  rw [h9, nI_eq (by omega) (by omega)] at c0
  refine hcl _ _ _ _ (w_len19 ?_)
  have el : A 74 8 - A 74 7 = nI (te c k e - tb c k e) := by rw [h8, h7, pk_sub (by omega)]
  refine ⟨fun (c1 : ¬ A 74 8 - A 74 7 = nI 5) => ?_, fun (c1 : A 74 8 - A 74 7 = nI 5) => ?_⟩
  · rw [el, nI_eq (by omega) (by omega)] at c1
    exact hax _ _ _ _ (lp_mw19 (d := d) hk he hc h7 k1 k0 (0, 0) ⟨by omega, Or.inr ⟨rfl, fun q => c1 q.2.1⟩⟩)
  · rw [el, nI_eq (by omega) (by omega)] at c1
    exact hax _ _ _ _ (lp_mw19 (d := d) hk he hc h7 k1 k0 (0, 1) ⟨by omega, Or.inl ⟨rfl, c0, c1, fun i hi => absurd hi (by simp)⟩⟩)
theorem lp_xw11 {E : ME} {d : Nat} {A : Nat → Nat → Int32} {B : Nat → Nat → Int64} {K : MK} {c : Nat → Int32} {k e : Nat} (hk : k ≤ 120) (he : e ≤ k) (hc : ∀ j, j < k → A 63 j = c j) (h4 : A 45 4 = nI (tb c k e)) (t1 : ts c k e = 1) (tl : te c k e - tb c k e = 4) (k1 : WD c k e w_deep → K (some (.int 1)) (SH, A, B)) (k0 : ¬ WD c k e w_deep → K (some (.int 0)) (SH, A, B)) : ∀ j, (j ≤ 4 ∧ ∀ i, i < j → c (tb c k e + i) = w_deep.getD i 0) → mSem E (d + 4) nX6_isWord (SH, A, B) 0 0 K 28 [some (.ref 45), some (.ref 1021), some (.int (nI j))] [] (SH, A, B) := by
  have hb := tk_b c he
  refine mSem_loop (h0 := (SH, A, B)) MX6_isWord rfl aX6_isWord 300 [28] (fun j => [some (.ref 45), some (.ref 1021), some (.int (nI j))]) (fun j => (SH, A, B)) (fun j => j ≤ 4 ∧ ∀ i, i < j → c (tb c k e + i) = w_deep.getD i 0) (fun j => 4 - j) ?_
  rintro j ⟨hj, hI⟩ cl ax hcl hax hlp
  refine hcl _ _ _ _ (w_len11 ?_)
  refine ⟨fun (c0 : nI 4 ≤ nI j) => ?_, fun (c0 : ¬ nI 4 ≤ nI j) => ?_⟩
  · rw [nI_leI (by omega) (by omega)] at c0
    exact ⟨rfl, k1 ⟨t1, tl, fun i hi => hI i (by have hi : i < 4 := hi; omega)⟩⟩
  · rw [nI_leI (by omega) (by omega)] at c0
    have ei : A 45 4 + nI j = nI (tb c k e + j) := by rw [h4, nI_add]
    have e8 : (A 45 4 + nI j).toNatClampNeg = tb c k e + j := by rw [ei]; exact nI_clamp (by omega)
    refine ⟨show vp_in (A 45 4 + nI j) 120 by rw [ei]; exact vp_in_nI (by omega) (by decide), ?_⟩
    refine hcl _ _ _ _ (w_char11 j (by omega) ?_)
    have ec : A 63 (A 45 4 + nI j).toNatClampNeg = c (tb c k e + j) := by rw [e8]; exact hc _ (by omega)
    refine ⟨fun (c1 : A 63 (A 45 4 + nI j).toNatClampNeg = w_deep.getD j 0) => ?_, fun (c1 : ¬ A 63 (A 45 4 + nI j).toNatClampNeg = w_deep.getD j 0) => ?_⟩
    · rw [ec] at c1
      have this : ax 28 [some (.ref 45), some (.ref 1021), some (.int (nI (j + 1)))] [] (SH, A, B) := hlp (j + 1) ⟨by omega, fun i hi => by
        by_cases q : i = j
        · rw [q]; exact c1
        · exact hI i (by omega)⟩ (by omega)
      rw [← nI_1] at this
      exact this
    · rw [ec] at c1
      exact ⟨rfl, k0 (fun q => c1 (q.2.2 j (by show j < 4; omega)))⟩
theorem w_xw11 {E : ME} {d : Nat} {A : Nat → Nat → Int32} {B : Nat → Nat → Int64} {K : MK} {c : Nat → Int32} {k e : Nat} (hk : k ≤ 120) (he : e ≤ k) (hc : ∀ j, j < k → A 63 j = c j) (hT : TX c k (A 45) e) (k1 : WD c k e w_deep → K (some (.int 1)) (SH, A, B)) (k0 : ¬ WD c k e w_deep → K (some (.int 0)) (SH, A, B)) : mCall E (d + 4) nX6_isWord [.ref 45, .ref 1021] (SH, A, B) K := by
  obtain ⟨_, h3, h4, h5, _⟩ := hT
  have hb := tk_b c he
  refine mCall_sem MX6_isWord rfl rfl (Or.inl ⟨rfl, rfl, rfl⟩) rfl (mSem_wp MX6_isWord rfl aX6_isWord 300 [28] (fun cl ax hcl hax => ?_))
  refine ⟨fun (c0 : ¬ A 45 3 = 1) => ⟨rfl, k0 (fun q => c0 (by rw [h3]; exact (tx_1 he).mpr q.1))⟩, fun (c0 : A 45 3 = 1) => ?_⟩
  rw [h3, tx_1 he] at c0
  refine hcl _ _ _ _ (w_len11 ?_)
  have el : A 45 5 - A 45 4 = nI (te c k e - tb c k e) := by rw [h5, h4, pk_sub (by omega)]
  refine ⟨fun (c1 : A 45 5 - A 45 4 = nI 4) => ?_, fun (c1 : ¬ A 45 5 - A 45 4 = nI 4) => ⟨rfl, k0 (fun q => c1 (by rw [el, q.2.1]; rfl))⟩⟩
  rw [el, nI_eq (by omega) (by omega)] at c1
  exact hax _ _ _ _ (lp_xw11 (d := d) hk he hc h4 c0 c1 k1 k0 0 ⟨by omega, fun i hi => by omega⟩)
theorem lp_mw20 {E : ME} {d : Nat} {A : Nat → Nat → Int32} {B : Nat → Nat → Int64} {K : MK} {c : Nat → Int32} {k e : Nat} (hk : k ≤ 120) (he : e ≤ k) (hc : ∀ j, j < k → A 79 j = c j) (h7 : A 74 7 = nI (tb c k e)) (k1 : WD c k e w_deep → K (some (.int 1)) (SH, A, B)) (k0 : ¬ WD c k e w_deep → K (some (.int 0)) (SH, A, B)) : ∀ p : Nat × Int32, (p.1 ≤ 4 ∧ ((p.2 = 1 ∧ ts c k e = 1 ∧ te c k e - tb c k e = 4 ∧ ∀ i, i < p.1 → c (tb c k e + i) = w_deep.getD i 0) ∨ (p.2 = 0 ∧ ¬ WD c k e w_deep))) → mSem E (d + 4) nX9_isWord (SH, A, B) 0 0 K 32 [some (.ref 74), some (.ref 1030), some (.int p.2), some (.int (nI p.1))] [] (SH, A, B) := by
  have hb := tk_b c he
  refine mSem_loop (σ := Nat × Int32) (h0 := (SH, A, B)) MX9_isWord rfl aX9_isWord 300 [32] (fun p => [some (.ref 74), some (.ref 1030), some (.int p.2), some (.int (nI p.1))]) (fun p => (SH, A, B)) (fun p => p.1 ≤ 4 ∧ ((p.2 = 1 ∧ ts c k e = 1 ∧ te c k e - tb c k e = 4 ∧ ∀ i, i < p.1 → c (tb c k e + i) = w_deep.getD i 0) ∨ (p.2 = 0 ∧ ¬ WD c k e w_deep))) (fun p => 4 - p.1) ?_
  rintro ⟨j, z⟩ ⟨hj, hI⟩ cl ax hcl hax hlp
  have hj : j ≤ 4 := hj
  refine hcl _ _ _ _ (w_len20 ?_)
  rcases hI with ⟨z1, t1, tl, hI⟩ | ⟨z0, nw⟩
  · have z1 : z = 1 := z1
    subst z1
    have hI : ∀ i, i < j → c (tb c k e + i) = w_deep.getD i 0 := hI
    refine ⟨fun (c0 : nI 4 ≤ nI j) => ?_, fun (c0 : ¬ nI 4 ≤ nI j) => ?_⟩
    · rw [nI_leI (by omega) (by omega)] at c0
      exact ⟨show narrow .boolean (.int 1) = .int 1 from rfl, k1 ⟨t1, tl, fun i hi => hI i (by have hi : i < 4 := hi; omega)⟩⟩
    · rw [nI_leI (by omega) (by omega)] at c0
      refine ⟨fun (h9 : (1 : Int32) = 0) => absurd h9 (by decide), fun _ => ?_⟩
      have ei : A 74 7 + nI j = nI (tb c k e + j) := by rw [h7, nI_add]
      have e8 : (A 74 7 + nI j).toNatClampNeg = tb c k e + j := by rw [ei]; exact nI_clamp (by omega)
      refine ⟨show vp_in (A 74 7 + nI j) 120 by rw [ei]; exact vp_in_nI (by omega) (by decide), ?_⟩
      refine hcl _ _ _ _ (w_char20 j (by omega) ?_)
      have ec : A 79 (A 74 7 + nI j).toNatClampNeg = c (tb c k e + j) := by rw [e8]; exact hc _ (by omega)
      refine ⟨fun (c1 : ¬ A 79 (A 74 7 + nI j).toNatClampNeg = w_deep.getD j 0) => ?_, fun (c1 : A 79 (A 74 7 + nI j).toNatClampNeg = w_deep.getD j 0) => ?_⟩
      · rw [ec] at c1
        have this : ax 32 [some (.ref 74), some (.ref 1030), some (.int 0), some (.int (nI (j + 1)))] [] (SH, A, B) := hlp (j + 1, 0) ⟨by show j + 1 ≤ 4; omega, Or.inr ⟨rfl, fun q => c1 (q.2.2 j (by show j < 4; omega))⟩⟩ (by show 4 - (j + 1) < 4 - j; omega)
        rw [← nI_1] at this
        exact this
      · rw [ec] at c1
        have this : ax 32 [some (.ref 74), some (.ref 1030), some (.int 1), some (.int (nI (j + 1)))] [] (SH, A, B) := hlp (j + 1, 1) ⟨by show j + 1 ≤ 4; omega, Or.inl ⟨rfl, t1, tl, fun i hi => by
          have hi : i < j + 1 := hi
          by_cases q : i = j
          · rw [q]; exact c1
          · exact hI i (by omega)⟩⟩ (by show 4 - (j + 1) < 4 - j; omega)
        rw [← nI_1] at this
        exact this
  · have z0 : z = 0 := z0
    subst z0
    refine ⟨fun _ => ⟨show narrow .boolean (.int 0) = .int 0 from rfl, k0 nw⟩, fun _ => ?_⟩
    refine ⟨fun _ => ?_, fun (h9 : ¬ (0 : Int32) = 0) => absurd rfl h9⟩
    exact ⟨show narrow .boolean (.int 0) = .int 0 from rfl, k0 nw⟩
theorem w_mw20 {E : ME} {d : Nat} {A : Nat → Nat → Int32} {B : Nat → Nat → Int64} {K : MK} {c : Nat → Int32} {k e : Nat} (hk : k ≤ 120) (he : e ≤ k) (hc : ∀ j, j < k → A 79 j = c j) (h7 : A 74 7 = nI (tb c k e)) (h8 : A 74 8 = nI (te c k e)) (h9 : A 74 9 = nI (ts c k e)) (k1 : WD c k e w_deep → K (some (.int 1)) (SH, A, B)) (k0 : ¬ WD c k e w_deep → K (some (.int 0)) (SH, A, B)) : mCall E (d + 4) nX9_isWord [.ref 74, .ref 1030] (SH, A, B) K := by
  have hb := tk_b c he
  refine mCall_sem MX9_isWord rfl rfl (Or.inl ⟨rfl, rfl, rfl⟩) rfl (mSem_wp MX9_isWord rfl aX9_isWord 300 [32] (fun cl ax hcl hax => ?_))
  refine ⟨fun (c0 : ¬ A 74 9 = nI 1) => ?_, fun (c0 : A 74 9 = nI 1) => ?_⟩
  · rw [h9, nI_eq (by omega) (by omega)] at c0
    exact hax _ _ _ _ (lp_mw20 (d := d) hk he hc h7 k1 k0 (0, 0) ⟨by omega, Or.inr ⟨rfl, fun q => c0 q.1⟩⟩)
  rw [h9, nI_eq (by omega) (by omega)] at c0
  refine hcl _ _ _ _ (w_len20 ?_)
  have el : A 74 8 - A 74 7 = nI (te c k e - tb c k e) := by rw [h8, h7, pk_sub (by omega)]
  refine ⟨fun (c1 : ¬ A 74 8 - A 74 7 = nI 4) => ?_, fun (c1 : A 74 8 - A 74 7 = nI 4) => ?_⟩
  · rw [el, nI_eq (by omega) (by omega)] at c1
    exact hax _ _ _ _ (lp_mw20 (d := d) hk he hc h7 k1 k0 (0, 0) ⟨by omega, Or.inr ⟨rfl, fun q => c1 q.2.1⟩⟩)
  · rw [el, nI_eq (by omega) (by omega)] at c1
    exact hax _ _ _ _ (lp_mw20 (d := d) hk he hc h7 k1 k0 (0, 1) ⟨by omega, Or.inl ⟨rfl, c0, c1, fun i hi => absurd hi (by simp)⟩⟩)
theorem lp_xw12 {E : ME} {d : Nat} {A : Nat → Nat → Int32} {B : Nat → Nat → Int64} {K : MK} {c : Nat → Int32} {k e : Nat} (hk : k ≤ 120) (he : e ≤ k) (hc : ∀ j, j < k → A 63 j = c j) (h4 : A 45 4 = nI (tb c k e)) (t1 : ts c k e = 1) (tl : te c k e - tb c k e = 5) (k1 : WD c k e w_house → K (some (.int 1)) (SH, A, B)) (k0 : ¬ WD c k e w_house → K (some (.int 0)) (SH, A, B)) : ∀ j, (j ≤ 5 ∧ ∀ i, i < j → c (tb c k e + i) = w_house.getD i 0) → mSem E (d + 4) nX6_isWord (SH, A, B) 0 0 K 28 [some (.ref 45), some (.ref 1022), some (.int (nI j))] [] (SH, A, B) := by
  have hb := tk_b c he
  refine mSem_loop (h0 := (SH, A, B)) MX6_isWord rfl aX6_isWord 300 [28] (fun j => [some (.ref 45), some (.ref 1022), some (.int (nI j))]) (fun j => (SH, A, B)) (fun j => j ≤ 5 ∧ ∀ i, i < j → c (tb c k e + i) = w_house.getD i 0) (fun j => 5 - j) ?_
  rintro j ⟨hj, hI⟩ cl ax hcl hax hlp
  refine hcl _ _ _ _ (w_len12 ?_)
  refine ⟨fun (c0 : nI 5 ≤ nI j) => ?_, fun (c0 : ¬ nI 5 ≤ nI j) => ?_⟩
  · rw [nI_leI (by omega) (by omega)] at c0
    exact ⟨rfl, k1 ⟨t1, tl, fun i hi => hI i (by have hi : i < 5 := hi; omega)⟩⟩
  · rw [nI_leI (by omega) (by omega)] at c0
    have ei : A 45 4 + nI j = nI (tb c k e + j) := by rw [h4, nI_add]
    have e8 : (A 45 4 + nI j).toNatClampNeg = tb c k e + j := by rw [ei]; exact nI_clamp (by omega)
    refine ⟨show vp_in (A 45 4 + nI j) 120 by rw [ei]; exact vp_in_nI (by omega) (by decide), ?_⟩
    refine hcl _ _ _ _ (w_char12 j (by omega) ?_)
    have ec : A 63 (A 45 4 + nI j).toNatClampNeg = c (tb c k e + j) := by rw [e8]; exact hc _ (by omega)
    refine ⟨fun (c1 : A 63 (A 45 4 + nI j).toNatClampNeg = w_house.getD j 0) => ?_, fun (c1 : ¬ A 63 (A 45 4 + nI j).toNatClampNeg = w_house.getD j 0) => ?_⟩
    · rw [ec] at c1
      have this : ax 28 [some (.ref 45), some (.ref 1022), some (.int (nI (j + 1)))] [] (SH, A, B) := hlp (j + 1) ⟨by omega, fun i hi => by
        by_cases q : i = j
        · rw [q]; exact c1
        · exact hI i (by omega)⟩ (by omega)
      rw [← nI_1] at this
      exact this
    · rw [ec] at c1
      exact ⟨rfl, k0 (fun q => c1 (q.2.2 j (by show j < 5; omega)))⟩
theorem w_xw12 {E : ME} {d : Nat} {A : Nat → Nat → Int32} {B : Nat → Nat → Int64} {K : MK} {c : Nat → Int32} {k e : Nat} (hk : k ≤ 120) (he : e ≤ k) (hc : ∀ j, j < k → A 63 j = c j) (hT : TX c k (A 45) e) (k1 : WD c k e w_house → K (some (.int 1)) (SH, A, B)) (k0 : ¬ WD c k e w_house → K (some (.int 0)) (SH, A, B)) : mCall E (d + 4) nX6_isWord [.ref 45, .ref 1022] (SH, A, B) K := by
  obtain ⟨_, h3, h4, h5, _⟩ := hT
  have hb := tk_b c he
  refine mCall_sem MX6_isWord rfl rfl (Or.inl ⟨rfl, rfl, rfl⟩) rfl (mSem_wp MX6_isWord rfl aX6_isWord 300 [28] (fun cl ax hcl hax => ?_))
  refine ⟨fun (c0 : ¬ A 45 3 = 1) => ⟨rfl, k0 (fun q => c0 (by rw [h3]; exact (tx_1 he).mpr q.1))⟩, fun (c0 : A 45 3 = 1) => ?_⟩
  rw [h3, tx_1 he] at c0
  refine hcl _ _ _ _ (w_len12 ?_)
  have el : A 45 5 - A 45 4 = nI (te c k e - tb c k e) := by rw [h5, h4, pk_sub (by omega)]
  refine ⟨fun (c1 : A 45 5 - A 45 4 = nI 5) => ?_, fun (c1 : ¬ A 45 5 - A 45 4 = nI 5) => ⟨rfl, k0 (fun q => c1 (by rw [el, q.2.1]; rfl))⟩⟩
  rw [el, nI_eq (by omega) (by omega)] at c1
  exact hax _ _ _ _ (lp_xw12 (d := d) hk he hc h4 c0 c1 k1 k0 0 ⟨by omega, fun i hi => by omega⟩)
theorem lp_mw15 {E : ME} {d : Nat} {A : Nat → Nat → Int32} {B : Nat → Nat → Int64} {K : MK} {c : Nat → Int32} {k e : Nat} (hk : k ≤ 120) (he : e ≤ k) (hc : ∀ j, j < k → A 79 j = c j) (h7 : A 74 7 = nI (tb c k e)) (k1 : WD c k e w_house → K (some (.int 1)) (SH, A, B)) (k0 : ¬ WD c k e w_house → K (some (.int 0)) (SH, A, B)) : ∀ p : Nat × Int32, (p.1 ≤ 5 ∧ ((p.2 = 1 ∧ ts c k e = 1 ∧ te c k e - tb c k e = 5 ∧ ∀ i, i < p.1 → c (tb c k e + i) = w_house.getD i 0) ∨ (p.2 = 0 ∧ ¬ WD c k e w_house))) → mSem E (d + 4) nX9_isWord (SH, A, B) 0 0 K 32 [some (.ref 74), some (.ref 1025), some (.int p.2), some (.int (nI p.1))] [] (SH, A, B) := by
  have hb := tk_b c he
  refine mSem_loop (σ := Nat × Int32) (h0 := (SH, A, B)) MX9_isWord rfl aX9_isWord 300 [32] (fun p => [some (.ref 74), some (.ref 1025), some (.int p.2), some (.int (nI p.1))]) (fun p => (SH, A, B)) (fun p => p.1 ≤ 5 ∧ ((p.2 = 1 ∧ ts c k e = 1 ∧ te c k e - tb c k e = 5 ∧ ∀ i, i < p.1 → c (tb c k e + i) = w_house.getD i 0) ∨ (p.2 = 0 ∧ ¬ WD c k e w_house))) (fun p => 5 - p.1) ?_
  rintro ⟨j, z⟩ ⟨hj, hI⟩ cl ax hcl hax hlp
  have hj : j ≤ 5 := hj
  refine hcl _ _ _ _ (w_len15 ?_)
  rcases hI with ⟨z1, t1, tl, hI⟩ | ⟨z0, nw⟩
  · have z1 : z = 1 := z1
    subst z1
    have hI : ∀ i, i < j → c (tb c k e + i) = w_house.getD i 0 := hI
    refine ⟨fun (c0 : nI 5 ≤ nI j) => ?_, fun (c0 : ¬ nI 5 ≤ nI j) => ?_⟩
    · rw [nI_leI (by omega) (by omega)] at c0
      exact ⟨show narrow .boolean (.int 1) = .int 1 from rfl, k1 ⟨t1, tl, fun i hi => hI i (by have hi : i < 5 := hi; omega)⟩⟩
    · rw [nI_leI (by omega) (by omega)] at c0
      refine ⟨fun (h9 : (1 : Int32) = 0) => absurd h9 (by decide), fun _ => ?_⟩
      have ei : A 74 7 + nI j = nI (tb c k e + j) := by rw [h7, nI_add]
      have e8 : (A 74 7 + nI j).toNatClampNeg = tb c k e + j := by rw [ei]; exact nI_clamp (by omega)
      refine ⟨show vp_in (A 74 7 + nI j) 120 by rw [ei]; exact vp_in_nI (by omega) (by decide), ?_⟩
      refine hcl _ _ _ _ (w_char15 j (by omega) ?_)
      have ec : A 79 (A 74 7 + nI j).toNatClampNeg = c (tb c k e + j) := by rw [e8]; exact hc _ (by omega)
      refine ⟨fun (c1 : ¬ A 79 (A 74 7 + nI j).toNatClampNeg = w_house.getD j 0) => ?_, fun (c1 : A 79 (A 74 7 + nI j).toNatClampNeg = w_house.getD j 0) => ?_⟩
      · rw [ec] at c1
        have this : ax 32 [some (.ref 74), some (.ref 1025), some (.int 0), some (.int (nI (j + 1)))] [] (SH, A, B) := hlp (j + 1, 0) ⟨by show j + 1 ≤ 5; omega, Or.inr ⟨rfl, fun q => c1 (q.2.2 j (by show j < 5; omega))⟩⟩ (by show 5 - (j + 1) < 5 - j; omega)
        rw [← nI_1] at this
        exact this
      · rw [ec] at c1
        have this : ax 32 [some (.ref 74), some (.ref 1025), some (.int 1), some (.int (nI (j + 1)))] [] (SH, A, B) := hlp (j + 1, 1) ⟨by show j + 1 ≤ 5; omega, Or.inl ⟨rfl, t1, tl, fun i hi => by
          have hi : i < j + 1 := hi
          by_cases q : i = j
          · rw [q]; exact c1
          · exact hI i (by omega)⟩⟩ (by show 5 - (j + 1) < 5 - j; omega)
        rw [← nI_1] at this
        exact this
  · have z0 : z = 0 := z0
    subst z0
    refine ⟨fun _ => ⟨show narrow .boolean (.int 0) = .int 0 from rfl, k0 nw⟩, fun _ => ?_⟩
    refine ⟨fun _ => ?_, fun (h9 : ¬ (0 : Int32) = 0) => absurd rfl h9⟩
    exact ⟨show narrow .boolean (.int 0) = .int 0 from rfl, k0 nw⟩
theorem w_mw15 {E : ME} {d : Nat} {A : Nat → Nat → Int32} {B : Nat → Nat → Int64} {K : MK} {c : Nat → Int32} {k e : Nat} (hk : k ≤ 120) (he : e ≤ k) (hc : ∀ j, j < k → A 79 j = c j) (h7 : A 74 7 = nI (tb c k e)) (h8 : A 74 8 = nI (te c k e)) (h9 : A 74 9 = nI (ts c k e)) (k1 : WD c k e w_house → K (some (.int 1)) (SH, A, B)) (k0 : ¬ WD c k e w_house → K (some (.int 0)) (SH, A, B)) : mCall E (d + 4) nX9_isWord [.ref 74, .ref 1025] (SH, A, B) K := by
  have hb := tk_b c he
  refine mCall_sem MX9_isWord rfl rfl (Or.inl ⟨rfl, rfl, rfl⟩) rfl (mSem_wp MX9_isWord rfl aX9_isWord 300 [32] (fun cl ax hcl hax => ?_))
  refine ⟨fun (c0 : ¬ A 74 9 = nI 1) => ?_, fun (c0 : A 74 9 = nI 1) => ?_⟩
  · rw [h9, nI_eq (by omega) (by omega)] at c0
    exact hax _ _ _ _ (lp_mw15 (d := d) hk he hc h7 k1 k0 (0, 0) ⟨by omega, Or.inr ⟨rfl, fun q => c0 q.1⟩⟩)
  rw [h9, nI_eq (by omega) (by omega)] at c0
  refine hcl _ _ _ _ (w_len15 ?_)
  have el : A 74 8 - A 74 7 = nI (te c k e - tb c k e) := by rw [h8, h7, pk_sub (by omega)]
  refine ⟨fun (c1 : ¬ A 74 8 - A 74 7 = nI 5) => ?_, fun (c1 : A 74 8 - A 74 7 = nI 5) => ?_⟩
  · rw [el, nI_eq (by omega) (by omega)] at c1
    exact hax _ _ _ _ (lp_mw15 (d := d) hk he hc h7 k1 k0 (0, 0) ⟨by omega, Or.inr ⟨rfl, fun q => c1 q.2.1⟩⟩)
  · rw [el, nI_eq (by omega) (by omega)] at c1
    exact hax _ _ _ _ (lp_mw15 (d := d) hk he hc h7 k1 k0 (0, 1) ⟨by omega, Or.inl ⟨rfl, c0, c1, fun i hi => absurd hi (by simp)⟩⟩)
theorem lp_xw13 {E : ME} {d : Nat} {A : Nat → Nat → Int32} {B : Nat → Nat → Int64} {K : MK} {c : Nat → Int32} {k e : Nat} (hk : k ≤ 120) (he : e ≤ k) (hc : ∀ j, j < k → A 63 j = c j) (h4 : A 45 4 = nI (tb c k e)) (t1 : ts c k e = 1) (tl : te c k e - tb c k e = 2) (k1 : WD c k e w_at → K (some (.int 1)) (SH, A, B)) (k0 : ¬ WD c k e w_at → K (some (.int 0)) (SH, A, B)) : ∀ j, (j ≤ 2 ∧ ∀ i, i < j → c (tb c k e + i) = w_at.getD i 0) → mSem E (d + 4) nX6_isWord (SH, A, B) 0 0 K 28 [some (.ref 45), some (.ref 1023), some (.int (nI j))] [] (SH, A, B) := by
  have hb := tk_b c he
  refine mSem_loop (h0 := (SH, A, B)) MX6_isWord rfl aX6_isWord 300 [28] (fun j => [some (.ref 45), some (.ref 1023), some (.int (nI j))]) (fun j => (SH, A, B)) (fun j => j ≤ 2 ∧ ∀ i, i < j → c (tb c k e + i) = w_at.getD i 0) (fun j => 2 - j) ?_
  rintro j ⟨hj, hI⟩ cl ax hcl hax hlp
  refine hcl _ _ _ _ (w_len13 ?_)
  refine ⟨fun (c0 : nI 2 ≤ nI j) => ?_, fun (c0 : ¬ nI 2 ≤ nI j) => ?_⟩
  · rw [nI_leI (by omega) (by omega)] at c0
    exact ⟨rfl, k1 ⟨t1, tl, fun i hi => hI i (by have hi : i < 2 := hi; omega)⟩⟩
  · rw [nI_leI (by omega) (by omega)] at c0
    have ei : A 45 4 + nI j = nI (tb c k e + j) := by rw [h4, nI_add]
    have e8 : (A 45 4 + nI j).toNatClampNeg = tb c k e + j := by rw [ei]; exact nI_clamp (by omega)
    refine ⟨show vp_in (A 45 4 + nI j) 120 by rw [ei]; exact vp_in_nI (by omega) (by decide), ?_⟩
    refine hcl _ _ _ _ (w_char13 j (by omega) ?_)
    have ec : A 63 (A 45 4 + nI j).toNatClampNeg = c (tb c k e + j) := by rw [e8]; exact hc _ (by omega)
    refine ⟨fun (c1 : A 63 (A 45 4 + nI j).toNatClampNeg = w_at.getD j 0) => ?_, fun (c1 : ¬ A 63 (A 45 4 + nI j).toNatClampNeg = w_at.getD j 0) => ?_⟩
    · rw [ec] at c1
      have this : ax 28 [some (.ref 45), some (.ref 1023), some (.int (nI (j + 1)))] [] (SH, A, B) := hlp (j + 1) ⟨by omega, fun i hi => by
        by_cases q : i = j
        · rw [q]; exact c1
        · exact hI i (by omega)⟩ (by omega)
      rw [← nI_1] at this
      exact this
    · rw [ec] at c1
      exact ⟨rfl, k0 (fun q => c1 (q.2.2 j (by show j < 2; omega)))⟩
theorem w_xw13 {E : ME} {d : Nat} {A : Nat → Nat → Int32} {B : Nat → Nat → Int64} {K : MK} {c : Nat → Int32} {k e : Nat} (hk : k ≤ 120) (he : e ≤ k) (hc : ∀ j, j < k → A 63 j = c j) (hT : TX c k (A 45) e) (k1 : WD c k e w_at → K (some (.int 1)) (SH, A, B)) (k0 : ¬ WD c k e w_at → K (some (.int 0)) (SH, A, B)) : mCall E (d + 4) nX6_isWord [.ref 45, .ref 1023] (SH, A, B) K := by
  obtain ⟨_, h3, h4, h5, _⟩ := hT
  have hb := tk_b c he
  refine mCall_sem MX6_isWord rfl rfl (Or.inl ⟨rfl, rfl, rfl⟩) rfl (mSem_wp MX6_isWord rfl aX6_isWord 300 [28] (fun cl ax hcl hax => ?_))
  refine ⟨fun (c0 : ¬ A 45 3 = 1) => ⟨rfl, k0 (fun q => c0 (by rw [h3]; exact (tx_1 he).mpr q.1))⟩, fun (c0 : A 45 3 = 1) => ?_⟩
  rw [h3, tx_1 he] at c0
  refine hcl _ _ _ _ (w_len13 ?_)
  have el : A 45 5 - A 45 4 = nI (te c k e - tb c k e) := by rw [h5, h4, pk_sub (by omega)]
  refine ⟨fun (c1 : A 45 5 - A 45 4 = nI 2) => ?_, fun (c1 : ¬ A 45 5 - A 45 4 = nI 2) => ⟨rfl, k0 (fun q => c1 (by rw [el, q.2.1]; rfl))⟩⟩
  rw [el, nI_eq (by omega) (by omega)] at c1
  exact hax _ _ _ _ (lp_xw13 (d := d) hk he hc h4 c0 c1 k1 k0 0 ⟨by omega, fun i hi => by omega⟩)
theorem lp_mw21 {E : ME} {d : Nat} {A : Nat → Nat → Int32} {B : Nat → Nat → Int64} {K : MK} {c : Nat → Int32} {k e : Nat} (hk : k ≤ 120) (he : e ≤ k) (hc : ∀ j, j < k → A 79 j = c j) (h7 : A 74 7 = nI (tb c k e)) (k1 : WD c k e w_at → K (some (.int 1)) (SH, A, B)) (k0 : ¬ WD c k e w_at → K (some (.int 0)) (SH, A, B)) : ∀ p : Nat × Int32, (p.1 ≤ 2 ∧ ((p.2 = 1 ∧ ts c k e = 1 ∧ te c k e - tb c k e = 2 ∧ ∀ i, i < p.1 → c (tb c k e + i) = w_at.getD i 0) ∨ (p.2 = 0 ∧ ¬ WD c k e w_at))) → mSem E (d + 4) nX9_isWord (SH, A, B) 0 0 K 32 [some (.ref 74), some (.ref 1031), some (.int p.2), some (.int (nI p.1))] [] (SH, A, B) := by
  have hb := tk_b c he
  refine mSem_loop (σ := Nat × Int32) (h0 := (SH, A, B)) MX9_isWord rfl aX9_isWord 300 [32] (fun p => [some (.ref 74), some (.ref 1031), some (.int p.2), some (.int (nI p.1))]) (fun p => (SH, A, B)) (fun p => p.1 ≤ 2 ∧ ((p.2 = 1 ∧ ts c k e = 1 ∧ te c k e - tb c k e = 2 ∧ ∀ i, i < p.1 → c (tb c k e + i) = w_at.getD i 0) ∨ (p.2 = 0 ∧ ¬ WD c k e w_at))) (fun p => 2 - p.1) ?_
  rintro ⟨j, z⟩ ⟨hj, hI⟩ cl ax hcl hax hlp
  have hj : j ≤ 2 := hj
  refine hcl _ _ _ _ (w_len21 ?_)
  rcases hI with ⟨z1, t1, tl, hI⟩ | ⟨z0, nw⟩
  · have z1 : z = 1 := z1
    subst z1
    have hI : ∀ i, i < j → c (tb c k e + i) = w_at.getD i 0 := hI
    refine ⟨fun (c0 : nI 2 ≤ nI j) => ?_, fun (c0 : ¬ nI 2 ≤ nI j) => ?_⟩
    · rw [nI_leI (by omega) (by omega)] at c0
      exact ⟨show narrow .boolean (.int 1) = .int 1 from rfl, k1 ⟨t1, tl, fun i hi => hI i (by have hi : i < 2 := hi; omega)⟩⟩
    · rw [nI_leI (by omega) (by omega)] at c0
      refine ⟨fun (h9 : (1 : Int32) = 0) => absurd h9 (by decide), fun _ => ?_⟩
      have ei : A 74 7 + nI j = nI (tb c k e + j) := by rw [h7, nI_add]
      have e8 : (A 74 7 + nI j).toNatClampNeg = tb c k e + j := by rw [ei]; exact nI_clamp (by omega)
      refine ⟨show vp_in (A 74 7 + nI j) 120 by rw [ei]; exact vp_in_nI (by omega) (by decide), ?_⟩
      refine hcl _ _ _ _ (w_char21 j (by omega) ?_)
      have ec : A 79 (A 74 7 + nI j).toNatClampNeg = c (tb c k e + j) := by rw [e8]; exact hc _ (by omega)
      refine ⟨fun (c1 : ¬ A 79 (A 74 7 + nI j).toNatClampNeg = w_at.getD j 0) => ?_, fun (c1 : A 79 (A 74 7 + nI j).toNatClampNeg = w_at.getD j 0) => ?_⟩
      · rw [ec] at c1
        have this : ax 32 [some (.ref 74), some (.ref 1031), some (.int 0), some (.int (nI (j + 1)))] [] (SH, A, B) := hlp (j + 1, 0) ⟨by show j + 1 ≤ 2; omega, Or.inr ⟨rfl, fun q => c1 (q.2.2 j (by show j < 2; omega))⟩⟩ (by show 2 - (j + 1) < 2 - j; omega)
        rw [← nI_1] at this
        exact this
      · rw [ec] at c1
        have this : ax 32 [some (.ref 74), some (.ref 1031), some (.int 1), some (.int (nI (j + 1)))] [] (SH, A, B) := hlp (j + 1, 1) ⟨by show j + 1 ≤ 2; omega, Or.inl ⟨rfl, t1, tl, fun i hi => by
          have hi : i < j + 1 := hi
          by_cases q : i = j
          · rw [q]; exact c1
          · exact hI i (by omega)⟩⟩ (by show 2 - (j + 1) < 2 - j; omega)
        rw [← nI_1] at this
        exact this
  · have z0 : z = 0 := z0
    subst z0
    refine ⟨fun _ => ⟨show narrow .boolean (.int 0) = .int 0 from rfl, k0 nw⟩, fun _ => ?_⟩
    refine ⟨fun _ => ?_, fun (h9 : ¬ (0 : Int32) = 0) => absurd rfl h9⟩
    exact ⟨show narrow .boolean (.int 0) = .int 0 from rfl, k0 nw⟩
theorem w_mw21 {E : ME} {d : Nat} {A : Nat → Nat → Int32} {B : Nat → Nat → Int64} {K : MK} {c : Nat → Int32} {k e : Nat} (hk : k ≤ 120) (he : e ≤ k) (hc : ∀ j, j < k → A 79 j = c j) (h7 : A 74 7 = nI (tb c k e)) (h8 : A 74 8 = nI (te c k e)) (h9 : A 74 9 = nI (ts c k e)) (k1 : WD c k e w_at → K (some (.int 1)) (SH, A, B)) (k0 : ¬ WD c k e w_at → K (some (.int 0)) (SH, A, B)) : mCall E (d + 4) nX9_isWord [.ref 74, .ref 1031] (SH, A, B) K := by
  have hb := tk_b c he
  refine mCall_sem MX9_isWord rfl rfl (Or.inl ⟨rfl, rfl, rfl⟩) rfl (mSem_wp MX9_isWord rfl aX9_isWord 300 [32] (fun cl ax hcl hax => ?_))
  refine ⟨fun (c0 : ¬ A 74 9 = nI 1) => ?_, fun (c0 : A 74 9 = nI 1) => ?_⟩
  · rw [h9, nI_eq (by omega) (by omega)] at c0
    exact hax _ _ _ _ (lp_mw21 (d := d) hk he hc h7 k1 k0 (0, 0) ⟨by omega, Or.inr ⟨rfl, fun q => c0 q.1⟩⟩)
  rw [h9, nI_eq (by omega) (by omega)] at c0
  refine hcl _ _ _ _ (w_len21 ?_)
  have el : A 74 8 - A 74 7 = nI (te c k e - tb c k e) := by rw [h8, h7, pk_sub (by omega)]
  refine ⟨fun (c1 : ¬ A 74 8 - A 74 7 = nI 2) => ?_, fun (c1 : A 74 8 - A 74 7 = nI 2) => ?_⟩
  · rw [el, nI_eq (by omega) (by omega)] at c1
    exact hax _ _ _ _ (lp_mw21 (d := d) hk he hc h7 k1 k0 (0, 0) ⟨by omega, Or.inr ⟨rfl, fun q => c1 q.2.1⟩⟩)
  · rw [el, nI_eq (by omega) (by omega)] at c1
    exact hax _ _ _ _ (lp_mw21 (d := d) hk he hc h7 k1 k0 (0, 1) ⟨by omega, Or.inl ⟨rfl, c0, c1, fun i hi => absurd hi (by simp)⟩⟩)
theorem lp_xw14 {E : ME} {d : Nat} {A : Nat → Nat → Int32} {B : Nat → Nat → Int64} {K : MK} {c : Nat → Int32} {k e : Nat} (hk : k ≤ 120) (he : e ≤ k) (hc : ∀ j, j < k → A 63 j = c j) (h4 : A 45 4 = nI (tb c k e)) (t1 : ts c k e = 1) (tl : te c k e - tb c k e = 4) (k1 : WD c k e w_hold → K (some (.int 1)) (SH, A, B)) (k0 : ¬ WD c k e w_hold → K (some (.int 0)) (SH, A, B)) : ∀ j, (j ≤ 4 ∧ ∀ i, i < j → c (tb c k e + i) = w_hold.getD i 0) → mSem E (d + 4) nX6_isWord (SH, A, B) 0 0 K 28 [some (.ref 45), some (.ref 1024), some (.int (nI j))] [] (SH, A, B) := by
  have hb := tk_b c he
  refine mSem_loop (h0 := (SH, A, B)) MX6_isWord rfl aX6_isWord 300 [28] (fun j => [some (.ref 45), some (.ref 1024), some (.int (nI j))]) (fun j => (SH, A, B)) (fun j => j ≤ 4 ∧ ∀ i, i < j → c (tb c k e + i) = w_hold.getD i 0) (fun j => 4 - j) ?_
  rintro j ⟨hj, hI⟩ cl ax hcl hax hlp
  refine hcl _ _ _ _ (w_len14 ?_)
  refine ⟨fun (c0 : nI 4 ≤ nI j) => ?_, fun (c0 : ¬ nI 4 ≤ nI j) => ?_⟩
  · rw [nI_leI (by omega) (by omega)] at c0
    exact ⟨rfl, k1 ⟨t1, tl, fun i hi => hI i (by have hi : i < 4 := hi; omega)⟩⟩
  · rw [nI_leI (by omega) (by omega)] at c0
    have ei : A 45 4 + nI j = nI (tb c k e + j) := by rw [h4, nI_add]
    have e8 : (A 45 4 + nI j).toNatClampNeg = tb c k e + j := by rw [ei]; exact nI_clamp (by omega)
    refine ⟨show vp_in (A 45 4 + nI j) 120 by rw [ei]; exact vp_in_nI (by omega) (by decide), ?_⟩
    refine hcl _ _ _ _ (w_char14 j (by omega) ?_)
    have ec : A 63 (A 45 4 + nI j).toNatClampNeg = c (tb c k e + j) := by rw [e8]; exact hc _ (by omega)
    refine ⟨fun (c1 : A 63 (A 45 4 + nI j).toNatClampNeg = w_hold.getD j 0) => ?_, fun (c1 : ¬ A 63 (A 45 4 + nI j).toNatClampNeg = w_hold.getD j 0) => ?_⟩
    · rw [ec] at c1
      have this : ax 28 [some (.ref 45), some (.ref 1024), some (.int (nI (j + 1)))] [] (SH, A, B) := hlp (j + 1) ⟨by omega, fun i hi => by
        by_cases q : i = j
        · rw [q]; exact c1
        · exact hI i (by omega)⟩ (by omega)
      rw [← nI_1] at this
      exact this
    · rw [ec] at c1
      exact ⟨rfl, k0 (fun q => c1 (q.2.2 j (by show j < 4; omega)))⟩
theorem w_xw14 {E : ME} {d : Nat} {A : Nat → Nat → Int32} {B : Nat → Nat → Int64} {K : MK} {c : Nat → Int32} {k e : Nat} (hk : k ≤ 120) (he : e ≤ k) (hc : ∀ j, j < k → A 63 j = c j) (hT : TX c k (A 45) e) (k1 : WD c k e w_hold → K (some (.int 1)) (SH, A, B)) (k0 : ¬ WD c k e w_hold → K (some (.int 0)) (SH, A, B)) : mCall E (d + 4) nX6_isWord [.ref 45, .ref 1024] (SH, A, B) K := by
  obtain ⟨_, h3, h4, h5, _⟩ := hT
  have hb := tk_b c he
  refine mCall_sem MX6_isWord rfl rfl (Or.inl ⟨rfl, rfl, rfl⟩) rfl (mSem_wp MX6_isWord rfl aX6_isWord 300 [28] (fun cl ax hcl hax => ?_))
  refine ⟨fun (c0 : ¬ A 45 3 = 1) => ⟨rfl, k0 (fun q => c0 (by rw [h3]; exact (tx_1 he).mpr q.1))⟩, fun (c0 : A 45 3 = 1) => ?_⟩
  rw [h3, tx_1 he] at c0
  refine hcl _ _ _ _ (w_len14 ?_)
  have el : A 45 5 - A 45 4 = nI (te c k e - tb c k e) := by rw [h5, h4, pk_sub (by omega)]
  refine ⟨fun (c1 : A 45 5 - A 45 4 = nI 4) => ?_, fun (c1 : ¬ A 45 5 - A 45 4 = nI 4) => ⟨rfl, k0 (fun q => c1 (by rw [el, q.2.1]; rfl))⟩⟩
  rw [el, nI_eq (by omega) (by omega)] at c1
  exact hax _ _ _ _ (lp_xw14 (d := d) hk he hc h4 c0 c1 k1 k0 0 ⟨by omega, fun i hi => by omega⟩)
theorem lp_mw22 {E : ME} {d : Nat} {A : Nat → Nat → Int32} {B : Nat → Nat → Int64} {K : MK} {c : Nat → Int32} {k e : Nat} (hk : k ≤ 120) (he : e ≤ k) (hc : ∀ j, j < k → A 79 j = c j) (h7 : A 74 7 = nI (tb c k e)) (k1 : WD c k e w_hold → K (some (.int 1)) (SH, A, B)) (k0 : ¬ WD c k e w_hold → K (some (.int 0)) (SH, A, B)) : ∀ p : Nat × Int32, (p.1 ≤ 4 ∧ ((p.2 = 1 ∧ ts c k e = 1 ∧ te c k e - tb c k e = 4 ∧ ∀ i, i < p.1 → c (tb c k e + i) = w_hold.getD i 0) ∨ (p.2 = 0 ∧ ¬ WD c k e w_hold))) → mSem E (d + 4) nX9_isWord (SH, A, B) 0 0 K 32 [some (.ref 74), some (.ref 1032), some (.int p.2), some (.int (nI p.1))] [] (SH, A, B) := by
  have hb := tk_b c he
  refine mSem_loop (σ := Nat × Int32) (h0 := (SH, A, B)) MX9_isWord rfl aX9_isWord 300 [32] (fun p => [some (.ref 74), some (.ref 1032), some (.int p.2), some (.int (nI p.1))]) (fun p => (SH, A, B)) (fun p => p.1 ≤ 4 ∧ ((p.2 = 1 ∧ ts c k e = 1 ∧ te c k e - tb c k e = 4 ∧ ∀ i, i < p.1 → c (tb c k e + i) = w_hold.getD i 0) ∨ (p.2 = 0 ∧ ¬ WD c k e w_hold))) (fun p => 4 - p.1) ?_
  rintro ⟨j, z⟩ ⟨hj, hI⟩ cl ax hcl hax hlp
  have hj : j ≤ 4 := hj
  refine hcl _ _ _ _ (w_len22 ?_)
  rcases hI with ⟨z1, t1, tl, hI⟩ | ⟨z0, nw⟩
  · have z1 : z = 1 := z1
    subst z1
    have hI : ∀ i, i < j → c (tb c k e + i) = w_hold.getD i 0 := hI
    refine ⟨fun (c0 : nI 4 ≤ nI j) => ?_, fun (c0 : ¬ nI 4 ≤ nI j) => ?_⟩
    · rw [nI_leI (by omega) (by omega)] at c0
      exact ⟨show narrow .boolean (.int 1) = .int 1 from rfl, k1 ⟨t1, tl, fun i hi => hI i (by have hi : i < 4 := hi; omega)⟩⟩
    · rw [nI_leI (by omega) (by omega)] at c0
      refine ⟨fun (h9 : (1 : Int32) = 0) => absurd h9 (by decide), fun _ => ?_⟩
      have ei : A 74 7 + nI j = nI (tb c k e + j) := by rw [h7, nI_add]
      have e8 : (A 74 7 + nI j).toNatClampNeg = tb c k e + j := by rw [ei]; exact nI_clamp (by omega)
      refine ⟨show vp_in (A 74 7 + nI j) 120 by rw [ei]; exact vp_in_nI (by omega) (by decide), ?_⟩
      refine hcl _ _ _ _ (w_char22 j (by omega) ?_)
      have ec : A 79 (A 74 7 + nI j).toNatClampNeg = c (tb c k e + j) := by rw [e8]; exact hc _ (by omega)
      refine ⟨fun (c1 : ¬ A 79 (A 74 7 + nI j).toNatClampNeg = w_hold.getD j 0) => ?_, fun (c1 : A 79 (A 74 7 + nI j).toNatClampNeg = w_hold.getD j 0) => ?_⟩
      · rw [ec] at c1
        have this : ax 32 [some (.ref 74), some (.ref 1032), some (.int 0), some (.int (nI (j + 1)))] [] (SH, A, B) := hlp (j + 1, 0) ⟨by show j + 1 ≤ 4; omega, Or.inr ⟨rfl, fun q => c1 (q.2.2 j (by show j < 4; omega))⟩⟩ (by show 4 - (j + 1) < 4 - j; omega)
        rw [← nI_1] at this
        exact this
      · rw [ec] at c1
        have this : ax 32 [some (.ref 74), some (.ref 1032), some (.int 1), some (.int (nI (j + 1)))] [] (SH, A, B) := hlp (j + 1, 1) ⟨by show j + 1 ≤ 4; omega, Or.inl ⟨rfl, t1, tl, fun i hi => by
          have hi : i < j + 1 := hi
          by_cases q : i = j
          · rw [q]; exact c1
          · exact hI i (by omega)⟩⟩ (by show 4 - (j + 1) < 4 - j; omega)
        rw [← nI_1] at this
        exact this
  · have z0 : z = 0 := z0
    subst z0
    refine ⟨fun _ => ⟨show narrow .boolean (.int 0) = .int 0 from rfl, k0 nw⟩, fun _ => ?_⟩
    refine ⟨fun _ => ?_, fun (h9 : ¬ (0 : Int32) = 0) => absurd rfl h9⟩
    exact ⟨show narrow .boolean (.int 0) = .int 0 from rfl, k0 nw⟩
theorem w_mw22 {E : ME} {d : Nat} {A : Nat → Nat → Int32} {B : Nat → Nat → Int64} {K : MK} {c : Nat → Int32} {k e : Nat} (hk : k ≤ 120) (he : e ≤ k) (hc : ∀ j, j < k → A 79 j = c j) (h7 : A 74 7 = nI (tb c k e)) (h8 : A 74 8 = nI (te c k e)) (h9 : A 74 9 = nI (ts c k e)) (k1 : WD c k e w_hold → K (some (.int 1)) (SH, A, B)) (k0 : ¬ WD c k e w_hold → K (some (.int 0)) (SH, A, B)) : mCall E (d + 4) nX9_isWord [.ref 74, .ref 1032] (SH, A, B) K := by
  have hb := tk_b c he
  refine mCall_sem MX9_isWord rfl rfl (Or.inl ⟨rfl, rfl, rfl⟩) rfl (mSem_wp MX9_isWord rfl aX9_isWord 300 [32] (fun cl ax hcl hax => ?_))
  refine ⟨fun (c0 : ¬ A 74 9 = nI 1) => ?_, fun (c0 : A 74 9 = nI 1) => ?_⟩
  · rw [h9, nI_eq (by omega) (by omega)] at c0
    exact hax _ _ _ _ (lp_mw22 (d := d) hk he hc h7 k1 k0 (0, 0) ⟨by omega, Or.inr ⟨rfl, fun q => c0 q.1⟩⟩)
  rw [h9, nI_eq (by omega) (by omega)] at c0
  refine hcl _ _ _ _ (w_len22 ?_)
  have el : A 74 8 - A 74 7 = nI (te c k e - tb c k e) := by rw [h8, h7, pk_sub (by omega)]
  refine ⟨fun (c1 : ¬ A 74 8 - A 74 7 = nI 4) => ?_, fun (c1 : A 74 8 - A 74 7 = nI 4) => ?_⟩
  · rw [el, nI_eq (by omega) (by omega)] at c1
    exact hax _ _ _ _ (lp_mw22 (d := d) hk he hc h7 k1 k0 (0, 0) ⟨by omega, Or.inr ⟨rfl, fun q => c1 q.2.1⟩⟩)
  · rw [el, nI_eq (by omega) (by omega)] at c1
    exact hax _ _ _ _ (lp_mw22 (d := d) hk he hc h7 k1 k0 (0, 1) ⟨by omega, Or.inl ⟨rfl, c0, c1, fun i hi => absurd hi (by simp)⟩⟩)
