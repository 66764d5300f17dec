/-! read -/
theorem lp_X8_read0 {E : ME} {d : Nat} {A A0 : Nat → Nat → Int32} {B B0 : Nat → Nat → Int64} {K : MK} {n : Int32} {k c m : Nat} (hk : k ≤ 12) (hc : c ≤ 40) (hm : m = min k c) (ek : A 35 0 = nI k) (ec : A 65 1 = nI c) (k1 : ∀ j, j < m → (∀ i, i < j → lg_cmp (B 66 i) (A 38 i).toInt64 = 0) → ¬ lg_cmp (B 66 j) (A 38 j).toInt64 = 0 → K (some (.int (1 + nI j))) (SH, A, B)) (k0 : (∀ i, i < m → lg_cmp (B 66 i) (A 38 i).toInt64 = 0) → K (some (.int (if k = c then 0 else 1 + nI m))) (SH, A, B)) : ∀ j, (j ≤ m ∧ ∀ i, i < j → lg_cmp (B 66 i) (A 38 i).toInt64 = 0) → mSem E (d + 1) nX8_read (SH, A0, B0) 0 0 K 53 [some (.ref 0), some (.int (nI 0)), some (.int n), some (.int 0), some (.ref 65), some (.int (nI m)), some (.int (nI j))] [] (SH, A, B) := by
  refine mSem_loop (σ := Nat) (h0 := (SH, A0, B0)) MX8_read rfl aX8_read 300 [53] (fun j => [some (.ref 0), some (.int (nI 0)), some (.int n), some (.int 0), some (.ref 65), some (.int (nI m)), some (.int (nI j))]) (fun j => (SH, A, B)) (fun j => j ≤ m ∧ ∀ i, i < j → lg_cmp (B 66 i) (A 38 i).toInt64 = 0) (fun j => m - j) ?_
  rintro j ⟨hj, hI⟩ cl ax hcl hax hlp
  have e8 : (nI j).toNatClampNeg = j := nI_clamp (by omega)
  refine ⟨fun (c0 : nI m ≤ nI j) => ?_, fun (c0 : ¬ nI m ≤ nI j) => ?_⟩
  · rw [nI_leI (by omega) (by omega)] at c0
    have : j = m := by omega
    subst this
    have this := k0 hI
    refine ⟨fun (c3 : ¬ A 35 0 = A 65 1) => ?_, fun (c3 : A 35 0 = A 65 1) => ?_⟩
    · rw [if_neg (fun q => c3 (by rw [ek, ec, q]))] at this
      exact this
    · rw [if_pos ((nI_eq (by omega) (by omega)).mp (ek.symm.trans (c3.trans ec)))] at this
      exact this
  · rw [nI_leI (by omega) (by omega)] at c0
    refine ⟨vp_in_nI (N := 40) (by omega) (by decide), ?_⟩
    refine ⟨vp_in_nI (N := 12) (by omega) (by decide), ?_⟩
    refine ⟨fun (c3 : lg_cmp (B 66 (nI j).toNatClampNeg) (A 38 (nI j).toNatClampNeg).toInt64 = 0) => ?_, fun (c3 : ¬ lg_cmp (B 66 (nI j).toNatClampNeg) (A 38 (nI j).toNatClampNeg).toInt64 = 0) => ?_⟩
    · rw [e8] at c3
      have this : ax 53 [some (.ref 0), some (.int (nI 0)), some (.int n), some (.int 0), some (.ref 65), some (.int (nI m)), some (.int (nI (j + 1)))] [] (SH, A, B) := hlp (j + 1) ⟨by omega, fun i hi => by
        by_cases e : i = j
        · rw [e]; exact c3
        · exact hI i (by omega)⟩ (by omega)
      rw [← nI_1 j] at this
      exact this
    · rw [e8] at c3
      exact k1 j (by omega) hI c3
theorem lp_X8_read1 {E : ME} {d : Nat} {A A0 : Nat → Nat → Int32} {B B0 : Nat → Nat → Int64} {K : MK} {n : Int32} {k c m : Nat} (hk : k ≤ 12) (hc : c ≤ 40) (hm : m = min k c) (ek : A 35 0 = nI k) (ec : A 67 1 = nI c) (k1 : ∀ j, j < m → (∀ i, i < j → lg_cmp (B 68 i) (A 38 i).toInt64 = 0) → ¬ lg_cmp (B 68 j) (A 38 j).toInt64 = 0 → K (some (.int (1 + nI j))) (SH, A, B)) (k0 : (∀ i, i < m → lg_cmp (B 68 i) (A 38 i).toInt64 = 0) → K (some (.int (if k = c then 0 else 1 + nI m))) (SH, A, B)) : ∀ j, (j ≤ m ∧ ∀ i, i < j → lg_cmp (B 68 i) (A 38 i).toInt64 = 0) → mSem E (d + 1) nX8_read (SH, A0, B0) 0 0 K 53 [some (.ref 0), some (.int (nI 1)), some (.int n), some (.int 0), some (.ref 67), some (.int (nI m)), some (.int (nI j))] [] (SH, A, B) := by
  refine mSem_loop (σ := Nat) (h0 := (SH, A0, B0)) MX8_read rfl aX8_read 300 [53] (fun j => [some (.ref 0), some (.int (nI 1)), some (.int n), some (.int 0), some (.ref 67), some (.int (nI m)), some (.int (nI j))]) (fun j => (SH, A, B)) (fun j => j ≤ m ∧ ∀ i, i < j → lg_cmp (B 68 i) (A 38 i).toInt64 = 0) (fun j => m - j) ?_
  rintro j ⟨hj, hI⟩ cl ax hcl hax hlp
  have e8 : (nI j).toNatClampNeg = j := nI_clamp (by omega)
  refine ⟨fun (c0 : nI m ≤ nI j) => ?_, fun (c0 : ¬ nI m ≤ nI j) => ?_⟩
  · rw [nI_leI (by omega) (by omega)] at c0
    have : j = m := by omega
    subst this
    have this := k0 hI
    refine ⟨fun (c3 : ¬ A 35 0 = A 67 1) => ?_, fun (c3 : A 35 0 = A 67 1) => ?_⟩
    · rw [if_neg (fun q => c3 (by rw [ek, ec, q]))] at this
      exact this
    · rw [if_pos ((nI_eq (by omega) (by omega)).mp (ek.symm.trans (c3.trans ec)))] at this
      exact this
  · rw [nI_leI (by omega) (by omega)] at c0
    refine ⟨vp_in_nI (N := 40) (by omega) (by decide), ?_⟩
    refine ⟨vp_in_nI (N := 12) (by omega) (by decide), ?_⟩
    refine ⟨fun (c3 : lg_cmp (B 68 (nI j).toNatClampNeg) (A 38 (nI j).toNatClampNeg).toInt64 = 0) => ?_, fun (c3 : ¬ lg_cmp (B 68 (nI j).toNatClampNeg) (A 38 (nI j).toNatClampNeg).toInt64 = 0) => ?_⟩
    · rw [e8] at c3
      have this : ax 53 [some (.ref 0), some (.int (nI 1)), some (.int n), some (.int 0), some (.ref 67), some (.int (nI m)), some (.int (nI (j + 1)))] [] (SH, A, B) := hlp (j + 1) ⟨by omega, fun i hi => by
        by_cases e : i = j
        · rw [e]; exact c3
        · exact hI i (by omega)⟩ (by omega)
      rw [← nI_1 j] at this
      exact this
    · rw [e8] at c3
      exact k1 j (by omega) hI c3
theorem lp_X8_read2 {E : ME} {d : Nat} {A A0 : Nat → Nat → Int32} {B B0 : Nat → Nat → Int64} {K : MK} {n : Int32} {k c m : Nat} (hk : k ≤ 12) (hc : c ≤ 40) (hm : m = min k c) (ek : A 35 0 = nI k) (ec : A 69 1 = nI c) (k1 : ∀ j, j < m → (∀ i, i < j → lg_cmp (B 70 i) (A 38 i).toInt64 = 0) → ¬ lg_cmp (B 70 j) (A 38 j).toInt64 = 0 → K (some (.int (1 + nI j))) (SH, A, B)) (k0 : (∀ i, i < m → lg_cmp (B 70 i) (A 38 i).toInt64 = 0) → K (some (.int (if k = c then 0 else 1 + nI m))) (SH, A, B)) : ∀ j, (j ≤ m ∧ ∀ i, i < j → lg_cmp (B 70 i) (A 38 i).toInt64 = 0) → mSem E (d + 1) nX8_read (SH, A0, B0) 0 0 K 53 [some (.ref 0), some (.int (nI 2)), some (.int n), some (.int 0), some (.ref 69), some (.int (nI m)), some (.int (nI j))] [] (SH, A, B) := by
  refine mSem_loop (σ := Nat) (h0 := (SH, A0, B0)) MX8_read rfl aX8_read 300 [53] (fun j => [some (.ref 0), some (.int (nI 2)), some (.int n), some (.int 0), some (.ref 69), some (.int (nI m)), some (.int (nI j))]) (fun j => (SH, A, B)) (fun j => j ≤ m ∧ ∀ i, i < j → lg_cmp (B 70 i) (A 38 i).toInt64 = 0) (fun j => m - j) ?_
  rintro j ⟨hj, hI⟩ cl ax hcl hax hlp
  have e8 : (nI j).toNatClampNeg = j := nI_clamp (by omega)
  refine ⟨fun (c0 : nI m ≤ nI j) => ?_, fun (c0 : ¬ nI m ≤ nI j) => ?_⟩
  · rw [nI_leI (by omega) (by omega)] at c0
    have : j = m := by omega
    subst this
    have this := k0 hI
    refine ⟨fun (c3 : ¬ A 35 0 = A 69 1) => ?_, fun (c3 : A 35 0 = A 69 1) => ?_⟩
    · rw [if_neg (fun q => c3 (by rw [ek, ec, q]))] at this
      exact this
    · rw [if_pos ((nI_eq (by omega) (by omega)).mp (ek.symm.trans (c3.trans ec)))] at this
      exact this
  · rw [nI_leI (by omega) (by omega)] at c0
    refine ⟨vp_in_nI (N := 40) (by omega) (by decide), ?_⟩
    refine ⟨vp_in_nI (N := 12) (by omega) (by decide), ?_⟩
    refine ⟨fun (c3 : lg_cmp (B 70 (nI j).toNatClampNeg) (A 38 (nI j).toNatClampNeg).toInt64 = 0) => ?_, fun (c3 : ¬ lg_cmp (B 70 (nI j).toNatClampNeg) (A 38 (nI j).toNatClampNeg).toInt64 = 0) => ?_⟩
    · rw [e8] at c3
      have this : ax 53 [some (.ref 0), some (.int (nI 2)), some (.int n), some (.int 0), some (.ref 69), some (.int (nI m)), some (.int (nI (j + 1)))] [] (SH, A, B) := hlp (j + 1) ⟨by omega, fun i hi => by
        by_cases e : i = j
        · rw [e]; exact c3
        · exact hI i (by omega)⟩ (by omega)
      rw [← nI_1 j] at this
      exact this
    · rw [e8] at c3
      exact k1 j (by omega) hI c3
theorem lp_X8_read3 {E : ME} {d : Nat} {A A0 : Nat → Nat → Int32} {B B0 : Nat → Nat → Int64} {K : MK} {n : Int32} {k c m : Nat} (hk : k ≤ 12) (hc : c ≤ 40) (hm : m = min k c) (ek : A 35 0 = nI k) (ec : A 71 1 = nI c) (k1 : ∀ j, j < m → (∀ i, i < j → lg_cmp (B 72 i) (A 38 i).toInt64 = 0) → ¬ lg_cmp (B 72 j) (A 38 j).toInt64 = 0 → K (some (.int (1 + nI j))) (SH, A, B)) (k0 : (∀ i, i < m → lg_cmp (B 72 i) (A 38 i).toInt64 = 0) → K (some (.int (if k = c then 0 else 1 + nI m))) (SH, A, B)) : ∀ j, (j ≤ m ∧ ∀ i, i < j → lg_cmp (B 72 i) (A 38 i).toInt64 = 0) → mSem E (d + 1) nX8_read (SH, A0, B0) 0 0 K 53 [some (.ref 0), some (.int (nI 3)), some (.int n), some (.int 0), some (.ref 71), some (.int (nI m)), some (.int (nI j))] [] (SH, A, B) := by
  refine mSem_loop (σ := Nat) (h0 := (SH, A0, B0)) MX8_read rfl aX8_read 300 [53] (fun j => [some (.ref 0), some (.int (nI 3)), some (.int n), some (.int 0), some (.ref 71), some (.int (nI m)), some (.int (nI j))]) (fun j => (SH, A, B)) (fun j => j ≤ m ∧ ∀ i, i < j → lg_cmp (B 72 i) (A 38 i).toInt64 = 0) (fun j => m - j) ?_
  rintro j ⟨hj, hI⟩ cl ax hcl hax hlp
  have e8 : (nI j).toNatClampNeg = j := nI_clamp (by omega)
  refine ⟨fun (c0 : nI m ≤ nI j) => ?_, fun (c0 : ¬ nI m ≤ nI j) => ?_⟩
  · rw [nI_leI (by omega) (by omega)] at c0
    have : j = m := by omega
    subst this
    have this := k0 hI
    refine ⟨fun (c3 : ¬ A 35 0 = A 71 1) => ?_, fun (c3 : A 35 0 = A 71 1) => ?_⟩
    · rw [if_neg (fun q => c3 (by rw [ek, ec, q]))] at this
      exact this
    · rw [if_pos ((nI_eq (by omega) (by omega)).mp (ek.symm.trans (c3.trans ec)))] at this
      exact this
  · rw [nI_leI (by omega) (by omega)] at c0
    refine ⟨vp_in_nI (N := 40) (by omega) (by decide), ?_⟩
    refine ⟨vp_in_nI (N := 12) (by omega) (by decide), ?_⟩
    refine ⟨fun (c3 : lg_cmp (B 72 (nI j).toNatClampNeg) (A 38 (nI j).toNatClampNeg).toInt64 = 0) => ?_, fun (c3 : ¬ lg_cmp (B 72 (nI j).toNatClampNeg) (A 38 (nI j).toNatClampNeg).toInt64 = 0) => ?_⟩
    · rw [e8] at c3
      have this : ax 53 [some (.ref 0), some (.int (nI 3)), some (.int n), some (.int 0), some (.ref 71), some (.int (nI m)), some (.int (nI (j + 1)))] [] (SH, A, B) := hlp (j + 1) ⟨by omega, fun i hi => by
        by_cases e : i = j
        · rw [e]; exact c3
        · exact hI i (by omega)⟩ (by omega)
      rw [← nI_1 j] at this
      exact this
    · rw [e8] at c3
      exact k1 j (by omega) hI c3
theorem lp_X9_read {E : ME} {d : Nat} {A A0 : Nat → Nat → Int32} {B B0 : Nat → Nat → Int64} {K : MK} {n : Int32} {s k c m : Nat} (hs : s < 4) (hk : k ≤ 12) (hc : c ≤ 40) (hm : m = min k c) (ek : A 75 3 = nI k) (ec : A 83 s = nI c) (k1 : ∀ j, j < m → (∀ i, i < j → lg_cmp (B 84 (40 * s + i)) (A 75 (17 + 5 * i)).toInt64 = 0) → ¬ lg_cmp (B 84 (40 * s + j)) (A 75 (17 + 5 * j)).toInt64 = 0 → ∀ R2, (∀ q, q < 135 → R2 q = A 77 q) → K (some (.int (1 + nI j))) (SH, va_up A 75 R2, B)) (k0 : (∀ i, i < m → lg_cmp (B 84 (40 * s + i)) (A 75 (17 + 5 * i)).toInt64 = 0) → ∀ R2, (∀ q, q < 135 → R2 q = A 77 q) → K (some (.int (if k = c then 0 else 1 + nI m))) (SH, va_up A 75 R2, B)) : ∀ j, (j ≤ m ∧ ∀ i, i < j → lg_cmp (B 84 (40 * s + i)) (A 75 (17 + 5 * i)).toInt64 = 0) → mSem E (d + 2) nX9_read (SH, A0, B0) 0 0 K 37 [some (.ref 74), some (.int (nI s)), some (.int n), some (.int 0), some (.int (nI j))] [] (SH, A, B) := by
  refine mSem_loop (σ := Nat) (h0 := (SH, A0, B0)) MX9_read rfl aX9_read 300 [37] (fun j => [some (.ref 74), some (.int (nI s)), some (.int n), some (.int 0), some (.int (nI j))]) (fun j => (SH, A, B)) (fun j => j ≤ m ∧ ∀ i, i < j → lg_cmp (B 84 (40 * s + i)) (A 75 (17 + 5 * i)).toInt64 = 0) (fun j => m - j) ?_
  rintro j ⟨hj, hI⟩ cl ax hcl hax hlp
  have es : (nI s).toNatClampNeg = s := nI_clamp (by omega)
  have e8 : (40 * nI s + nI j).toNatClampNeg = 40 * s + j := by rw [zIx]; exact nI_clamp (by omega)
  have hv : vp_in (nI s) 4 := vp_in_nI (by omega) (by decide)
  refine ⟨hv, ?_⟩
  refine ⟨fun (c0 : A 83 (nI s).toNatClampNeg ≤ nI j) => ?_, fun (c0 : ¬ A 83 (nI s).toNatClampNeg ≤ nI j) => ?_⟩
  · rw [es, ec, nI_leI (by omega) (by omega)] at c0
    have : j = m := by omega
    subst this
    have hcj : j = c := by omega
    refine ⟨hv, ?_⟩
    refine ⟨fun (c1 : ¬ nI j = A 83 (nI s).toNatClampNeg) => absurd (by rw [es, ec, hcj]) c1, fun _ => ?_⟩
    refine ⟨vl 3 rfl rfl, ?_⟩
    refine ⟨fun (c1 : ¬ nI j = A 75 3) => ?_, fun (c1 : nI j = A 75 3) => ?_⟩
    · refine hcl _ _ _ _ (w_putBack (fun R2 h2 => ?_))
      have this := k0 hI R2 h2
      rw [if_neg (fun q => c1 (by rw [ek, q, hcj]))] at this
      exact this
    · refine hcl _ _ _ _ (w_putBack (fun R2 h2 => ?_))
      have this := k0 hI R2 h2
      rw [ek] at c1
      have q := (nI_eq (by omega) (by omega)).mp c1
      rw [if_pos (by omega)] at this
      exact this
  rw [es, ec, nI_leI (by omega) (by omega)] at c0
  refine ⟨vl 3 rfl rfl, ?_⟩
  have ne : ¬ nI j = A 83 (nI s).toNatClampNeg := fun q => by
    rw [es, ec] at q
    have := (nI_eq (by omega) (by omega)).mp q
    omega
  refine ⟨fun (c1 : A 75 3 ≤ nI j) => ?_, fun (c1 : ¬ A 75 3 ≤ nI j) => ?_⟩
  · rw [ek, nI_leI (by omega) (by omega)] at c1
    have : j = m := by omega
    subst this
    refine ⟨hv, ?_⟩
    refine ⟨fun _ => ?_, fun c2 => absurd c2 ne⟩
    refine hcl _ _ _ _ (w_putBack (fun R2 h2 => ?_))
    have this := k0 hI R2 h2
    rw [if_neg (by omega)] at this
    exact this
  rw [ek, nI_leI (by omega) (by omega)] at c1
  refine ⟨show vp_in (40 * nI s + nI j) 160 by rw [zIx]; exact vp_in_nI (by omega) (by decide), ?_⟩
  refine hcl _ _ _ _ (w_houseIs (17 + 5 * j) (by omega) (hIx j 2 _ (by omega)) ?_)
  refine ⟨fun (c3 : ¬ lg_cmp (B 84 (40 * nI s + nI j).toNatClampNeg) (A 75 (17 + 5 * j)).toInt64 = 0) => ?_, fun (c3 : lg_cmp (B 84 (40 * nI s + nI j).toNatClampNeg) (A 75 (17 + 5 * j)).toInt64 = 0) => ?_⟩
  · rw [e8] at c3
    refine ⟨hv, ?_⟩
    refine ⟨fun _ => ?_, fun c2 => absurd c2 ne⟩
    refine hcl _ _ _ _ (w_putBack (fun R2 h2 => ?_))
    exact k1 j (by omega) hI c3 R2 h2
  · rw [e8] at c3
    have this : ax 37 [some (.ref 74), some (.int (nI s)), some (.int n), some (.int 0), some (.int (nI (j + 1)))] [] (SH, A, B) := hlp (j + 1) ⟨by omega, fun i hi => by
      by_cases e : i = j
      · rw [e]; exact c3
      · exact hI i (by omega)⟩ (by omega)
    rw [← nI_1 j] at this
    exact this
