/-! the model: the next token -/
def bt (c : Nat → Int32) (k j : Nat) : Int32 := if j < k then c j else -1
theorem w_byteAt {E : ME} {d : Nat} {A : Nat → Nat → Int32} {B : Nat → Nat → Int64} {K : MK} {c : Nat → Int32} {k : Nat} {x : Int32} (j : Nat) (hk : k ≤ 120) (hj : j ≤ 120) (hc : ∀ j, j < k → A 79 j = c j) (h6 : A 74 6 = nI k) (ex : x = nI j) (hK : K (some (.int (bt c k j))) (SH, A, B)) : mCall E d nX9_byteAt [.ref 74, .int x] (SH, A, B) K := by
  subst ex
  unfold bt at hK
  refine mCall_sem MX9_byteAt rfl rfl (Or.inl ⟨rfl, rfl, rfl⟩) rfl (mSem_wp MX9_byteAt rfl aX9_byteAt 300 [] (fun cl ax hcl hax => ?_))
  refine ⟨fun (c0 : A 74 6 ≤ nI j) => ?_, fun (c0 : ¬ A 74 6 ≤ nI j) => ?_⟩
  · rw [h6, nI_leI (by omega) (by omega)] at c0
    rw [if_neg (by omega)] at hK
    exact hK
  · rw [h6, nI_leI (by omega) (by omega)] at c0
    rw [if_pos (by omega), ← hc j (by omega)] at hK
    refine ⟨show vp_in (nI j) 120 from vp_in_nI (by omega) (by decide), ?_⟩
    rw [show A 79 j = A 79 (nI j).toNatClampNeg by rw [nI_clamp (by omega)]] at hK
    exact hK
theorem bt_B {c : Nat → Int32} {k j : Nat} : bt c k j = 32 ↔ j < k ∧ isB (c j) = true := by
  unfold bt
  split
  · rename_i h
    rw [isB_t]
    exact ⟨fun q => ⟨h, q⟩, fun q => q.2⟩
  · rename_i h
    exact ⟨fun q => absurd q (by decide), fun q => absurd q.1 h⟩
theorem bt_L {c : Nat → Int32} {k j : Nat} : (97 ≤ bt c k j ∧ bt c k j ≤ 122) ↔ j < k ∧ isL (c j) = true := by
  unfold bt
  split
  · rename_i h
    rw [isL_t]
    exact ⟨fun q => ⟨h, q⟩, fun q => q.2⟩
  · rename_i h
    exact ⟨fun q => absurd q (by decide), fun q => absurd q.1 h⟩
theorem bt_D {c : Nat → Int32} {k j : Nat} : (48 ≤ bt c k j ∧ bt c k j ≤ 57) ↔ j < k ∧ isD (c j) = true := by
  unfold bt
  split
  · rename_i h
    rw [isD_t]
    exact ⟨fun q => ⟨h, q⟩, fun q => q.2⟩
  · rename_i h
    exact ⟨fun q => absurd q (by decide), fun q => absurd q.1 h⟩
theorem bt_0 {c : Nat → Int32} {k j : Nat} (hp : ∀ j, j < k → 0 ≤ c j) : 0 ≤ bt c k j ↔ j < k := by
  unfold bt
  split
  · rename_i h
    exact ⟨fun _ => h, fun _ => hp j h⟩
  · rename_i h
    exact ⟨fun q => absurd q (by decide), fun q => absurd q h⟩
theorem mn_comm (x y : Int32) : mn x y = mn y x := by
  unfold mn
  grind
theorem lp_nm1 {E : ME} {d : Nat} {A A0 : Nat → Nat → Int32} {B : Nat → Nat → Int64} {K : MK} {c : Nat → Int32} {k e : Nat} (hk : k ≤ 120) (hc : ∀ j, j < k → A 79 j = c j) (h6 : A 74 6 = nI k) (out : ∀ F, (∀ q, q < 7 ∨ 10 < q → F q = A 74 q) → F 7 = nI (tb c k e) → mSem E (d + 1) nX9_next (SH, A0, B) 0 0 K 34 [some (.ref 74), none] [] (SH, va_up A 74 F, B)) : ∀ p : Nat × (Nat → Int32), (p.1 ≤ k ∧ rU isB c k p.1 = tb c k e ∧ (∀ q, q < 7 ∨ 10 < q → p.2 q = A 74 q) ∧ p.2 7 = nI p.1) → mSem E (d + 1) nX9_next (SH, A0, B) 0 0 K 8 [some (.ref 74), none] [] (SH, va_up A 74 p.2, B) := by
  refine mSem_loop (σ := Nat × (Nat → Int32)) (h0 := (SH, A0, B)) MX9_next rfl aX9_next 300 [8, 34] (fun p => [some (.ref 74), none]) (fun p => (SH, va_up A 74 p.2, B)) (fun p => p.1 ≤ k ∧ rU isB c k p.1 = tb c k e ∧ (∀ q, q < 7 ∨ 10 < q → p.2 q = A 74 q) ∧ p.2 7 = nI p.1) (fun p => k - p.1) ?_
  rintro ⟨j, F⟩ ⟨hj, h1, h2, h3⟩ cl ax hcl hax hlp
  have hj : j ≤ k := hj
  have h1 : rU isB c k j = tb c k e := h1
  have h2 : ∀ q, q < 7 ∨ 10 < q → F q = A 74 q := h2
  have h3 : F 7 = nI j := h3
  refine hcl _ _ _ _ (w_byteAt (A := va_up A 74 F) (c := c) j hk (by omega) hc ((h2 6 (by omega)).trans h6) h3 ?_)
  refine ⟨fun (c1 : ¬ bt c k j = 32) => ?_, fun (c1 : bt c k j = 32) => ?_⟩
  · rw [bt_B] at c1
    refine hax _ _ _ _ (out F h2 ?_)
    rw [h3, ← h1, rU_f c1]
  · rw [bt_B] at c1
    have this : ax 8 [some (.ref 74), none] [] (SH, va_up A 74 (upd F 7 (F 7 + 1)), B) := by
      refine hlp (j + 1, upd F 7 (F 7 + 1)) ⟨by show j + 1 ≤ k; omega, ?_, fun q hq => ?_, ?_⟩ (by show k - (j + 1) < k - j; omega)
      · show rU isB c k (j + 1) = _
        rw [← h1, rU_t c1.1 c1.2]
      · show upd F 7 (F 7 + 1) q = A 74 q
        rw [ud_n (by omega)]; exact h2 q hq
      · show F 7 + 1 = nI (j + 1)
        rw [h3, nI_1]
    rw [← up_up (F := F)] at this
    exact this
theorem lp_nm2 {E : ME} {d : Nat} {A A0 : Nat → Nat → Int32} {B : Nat → Nat → Int64} {K : MK} {c : Nat → Int32} {k b : Nat} {z : Int32} (hk : k ≤ 120) (hc : ∀ j, j < k → A 79 j = c j) (h6 : A 74 6 = nI k) (hK : ∀ F, (∀ q, q < 7 ∨ 10 < q → F q = A 74 q) → F 7 = nI b → F 8 = nI (rU isL c k b) → F 9 = 1 → F 10 = 0 → K none (SH, va_up A 74 F, B)) : ∀ p : Nat × (Nat → Int32), (p.1 ≤ k ∧ rU isL c k p.1 = rU isL c k b ∧ (∀ q, q < 7 ∨ 10 < q → p.2 q = A 74 q) ∧ p.2 7 = nI b ∧ p.2 8 = nI p.1 ∧ p.2 9 = 1 ∧ p.2 10 = 0) → mSem E (d + 1) nX9_next (SH, A0, B) 0 0 K 84 [some (.ref 74), some (.int z)] [] (SH, va_up A 74 p.2, B) := by
  refine mSem_loop (σ := Nat × (Nat → Int32)) (h0 := (SH, A0, B)) MX9_next rfl aX9_next 300 [84] (fun p => [some (.ref 74), some (.int z)]) (fun p => (SH, va_up A 74 p.2, B)) (fun p => p.1 ≤ k ∧ rU isL c k p.1 = rU isL c k b ∧ (∀ q, q < 7 ∨ 10 < q → p.2 q = A 74 q) ∧ p.2 7 = nI b ∧ p.2 8 = nI p.1 ∧ p.2 9 = 1 ∧ p.2 10 = 0) (fun p => k - p.1) ?_
  rintro ⟨j, F⟩ ⟨hj, h1, h2, h3, h4, h5, h5'⟩ cl ax hcl hax hlp
  have hj : j ≤ k := hj
  have h1 : rU isL c k j = rU isL c k b := h1
  have h2 : ∀ q, q < 7 ∨ 10 < q → F q = A 74 q := h2
  have h4 : F 8 = nI j := h4
  refine hcl _ _ _ _ (w_byteAt (A := va_up A 74 F) (c := c) j hk (by omega) hc ((h2 6 (by omega)).trans h6) h4 ?_)
  refine hcl _ _ _ _ (w_X9 (fun a1 a2 => ?_) (fun a0 => ?_))
  · refine ⟨fun h9 => absurd h9 (by decide), fun _ => ?_⟩
    have c1 := bt_L.mp ⟨a1, a2⟩
    have this : ax 84 [some (.ref 74), some (.int z)] [] (SH, va_up A 74 (upd F 8 (F 8 + 1)), B) := by
      refine hlp (j + 1, upd F 8 (F 8 + 1)) ⟨by show j + 1 ≤ k; omega, ?_, fun q hq => ?_, h3, ?_, h5, h5'⟩ (by show k - (j + 1) < k - j; omega)
      · show rU isL c k (j + 1) = _
        rw [← h1, rU_t c1.1 c1.2]
      · show upd F 8 (F 8 + 1) q = A 74 q
        rw [ud_n (by omega)]; exact h2 q hq
      · show F 8 + 1 = nI (j + 1)
        rw [h4, nI_1]
    rw [← up_up (F := F)] at this
    exact this
  · refine ⟨fun _ => ?_, fun h9 => absurd h9 (by decide)⟩
    rw [bt_L] at a0
    refine hK F h2 h3 ?_ h5 h5'
    rw [h4, ← h1, rU_f a0]
theorem lp_nm3 {E : ME} {d : Nat} {A A0 : Nat → Nat → Int32} {B : Nat → Nat → Int64} {K : MK} {c : Nat → Int32} {k b : Nat} {z : Int32} (hk : k ≤ 120) (hc : ∀ j, j < k → A 79 j = c j) (h6 : A 74 6 = nI k) (hK : ∀ F, (∀ q, q < 7 ∨ 10 < q → F q = A 74 q) → F 7 = nI b → F 8 = nI (rU isD c k b) → F 9 = 2 → F 10 = vU c k b 0 → K none (SH, va_up A 74 F, B)) : ∀ p : Nat × (Nat → Int32), (p.1 ≤ k ∧ rU isD c k p.1 = rU isD c k b ∧ (∀ q, q < 7 ∨ 10 < q → p.2 q = A 74 q) ∧ p.2 7 = nI b ∧ p.2 8 = nI p.1 ∧ p.2 9 = 2 ∧ vU c k p.1 (p.2 10) = vU c k b 0) → mSem E (d + 1) nX9_next (SH, A0, B) 0 0 K 131 [some (.ref 74), some (.int z)] [] (SH, va_up A 74 p.2, B) := by
  refine mSem_loop (σ := Nat × (Nat → Int32)) (h0 := (SH, A0, B)) MX9_next rfl aX9_next 300 [131] (fun p => [some (.ref 74), some (.int z)]) (fun p => (SH, va_up A 74 p.2, B)) (fun p => p.1 ≤ k ∧ rU isD c k p.1 = rU isD c k b ∧ (∀ q, q < 7 ∨ 10 < q → p.2 q = A 74 q) ∧ p.2 7 = nI b ∧ p.2 8 = nI p.1 ∧ p.2 9 = 2 ∧ vU c k p.1 (p.2 10) = vU c k b 0) (fun p => k - p.1) ?_
  rintro ⟨j, F⟩ ⟨hj, h1, h2, h3, h4, h5, h5'⟩ cl ax hcl hax hlp
  have hj : j ≤ k := hj
  have h1 : rU isD c k j = rU isD c k b := h1
  have h2 : ∀ q, q < 7 ∨ 10 < q → F q = A 74 q := h2
  have h4 : F 8 = nI j := h4
  have h5' : vU c k j (F 10) = vU c k b 0 := h5'
  refine hcl _ _ _ _ (w_byteAt (A := va_up A 74 F) (c := c) j hk (by omega) hc ((h2 6 (by omega)).trans h6) h4 ?_)
  refine hcl _ _ _ _ (w_X9 (fun a1 a2 => ?_) (fun a0 => ?_))
  · refine ⟨fun h9 => absurd h9 (by decide), fun _ => ?_⟩
    have c1 := bt_D.mp ⟨a1, a2⟩
    refine hcl _ _ _ _ (w_byteAt (A := va_up A 74 F) (c := c) j hk (by omega) hc ((h2 6 (by omega)).trans h6) h4 ?_)
    have eb : bt c k j = c j := by unfold bt; rw [if_pos c1.1]
    have this : ax 131 [some (.ref 74), some (.int z)] [] (SH, va_up A 74 (upd (upd F 10 (mn 10000 (10 * F 10 + bt c k j - 48))) 8 (F 8 + 1)), B) := by
      refine hlp (j + 1, upd (upd F 10 (mn 10000 (10 * F 10 + bt c k j - 48))) 8 (F 8 + 1)) ⟨by show j + 1 ≤ k; omega, ?_, fun q hq => ?_, h3, ?_, h5, ?_⟩ (by show k - (j + 1) < k - j; omega)
      · show rU isD c k (j + 1) = _
        rw [← h1, rU_t c1.1 c1.2]
      · show upd (upd F 10 _) 8 (F 8 + 1) q = A 74 q
        rw [ud_n (by omega), ud_n (by omega)]; exact h2 q hq
      · show F 8 + 1 = nI (j + 1)
        rw [h4, nI_1]
      · show vU c k (j + 1) (mn 10000 (10 * F 10 + bt c k j - 48)) = vU c k b 0
        rw [← h5', vU_t c1.1 c1.2, eb, mn_comm]
        unfold dg1
        rw [show 10 * F 10 = F 10 * 10 by grind]
    rw [← up3 F (upd F 10 (mn 10000 (10 * F 10 + bt c k j - 48)))] at this
    exact this
  · refine ⟨fun _ => ?_, fun h9 => absurd h9 (by decide)⟩
    rw [bt_D] at a0
    refine hK F h2 h3 ?_ h5 ?_
    · rw [h4, ← h1, rU_f a0]
    · rw [← h5', vU_f a0]
theorem w_next {E : ME} {d : Nat} {A : Nat → Nat → Int32} {B : Nat → Nat → Int64} {K : MK} {c : Nat → Int32} {k e : Nat} (hk : k ≤ 120) (he : e ≤ k) (hc : ∀ j, j < k → A 79 j = c j) (hp : ∀ j, j < k → 0 ≤ c j) (h6 : A 74 6 = nI k) (h8 : A 74 8 = nI e) (hK : ∀ F, (∀ q, q < 7 ∨ 10 < q → F q = A 74 q) → F 7 = nI (tb c k e) → F 8 = nI (te c k e) → F 9 = nI (ts c k e) → F 10 = tv c k e → K none (SH, va_up A 74 F, B)) : mCall E (d + 1) nX9_next [.ref 74] (SH, A, B) K := by
  have hb : tb c k e ≤ k := rU_le he
  refine mCall_sem MX9_next rfl rfl (Or.inl ⟨rfl, rfl, rfl⟩) rfl (mSem_wp MX9_next rfl aX9_next 300 [8] (fun cl ax hcl hax => ?_))
  refine hax _ _ _ _ (lp_nm1 (A := A) (c := c) (e := e) hk hc h6 (fun F f1 f7 => ?_) (e, upd (A 74) 7 (A 74 8)) ⟨he, rfl, fun q hq => ud_n (by omega), h8⟩)
  clear hcl hax
  clear cl ax
  refine mSem_wp MX9_next rfl aX9_next 300 [84, 131] (fun cl ax hcl hax => ?_)
  refine hcl _ _ _ _ (w_byteAt (A := va_up A 74 F) (c := c) (tb c k e) hk (by omega) hc ((f1 6 (by omega)).trans h6) f7 ?_)
  have rs : ∀ x y z q, q < 7 ∨ 10 < q → upd (upd (upd F 8 x) 10 y) 9 z q = A 74 q := fun x y z q hq => by
    rw [ud_n (by omega), ud_n (by omega), ud_n (by omega)]; exact f1 q hq
  have ru : ∀ x y z, va_up (va_up (va_up (va_up A 74 F) 74 (upd F 8 x)) 74 (upd (upd F 8 x) 10 y)) 74 (upd (upd (upd F 8 x) 10 y) 9 z) = va_up A 74 (upd (upd (upd F 8 x) 10 y) 9 z) := fun x y z => by rw [up_up, up_up, up_up]
  refine ⟨fun (c0 : 0 ≤ bt c k (tb c k e)) => ?_, fun (c0 : ¬ 0 ≤ bt c k (tb c k e)) => ?_⟩
  · rw [bt_0 hp] at c0
    refine hcl _ _ _ _ (w_X9 (fun a1 a2 => ?_) (fun a0 => ?_))
    · have cl1 := bt_L.mp ⟨a1, a2⟩
      obtain ⟨q1, q2, q3⟩ := tk1 cl1.1 cl1.2
      rw [q1, q2, q3] at hK
      refine ⟨fun h9 => absurd h9 (by decide), fun _ => ?_⟩
      have this := lp_nm2 (E := E) (d := d) (A := A) (A0 := A) (B := B) (K := K) (c := c) (b := tb c k e) (z := bt c k (tb c k e)) hk hc h6 hK (tb c k e, upd (upd (upd F 8 (F 7)) 10 0) 9 1) ⟨hb, rfl, rs _ _ _, f7, f7, rfl, rfl⟩
      have this : mSem E (d + 1) nX9_next (SH, A, B) 0 0 K 84 [some (.ref 74), some (.int (bt c k (tb c k e)))] [] (SH, va_up A 74 (upd (upd (upd F 8 (F 7)) 10 0) 9 1), B) := this
      rw [← ru] at this
      exact hax _ _ _ _ this
    · have l0 : isL (c (tb c k e)) = false := by
        cases q : isL (c (tb c k e)) with
        | false => rfl
        | true => exact absurd (bt_L.mpr ⟨c0, q⟩) a0
      refine ⟨fun _ => ?_, fun h9 => absurd h9 (by decide)⟩
      refine hcl _ _ _ _ (w_X9 (fun b1 b2 => ?_) (fun b0 => ?_))
      · have cl1 := bt_D.mp ⟨b1, b2⟩
        obtain ⟨q1, q2, q3⟩ := tk2 cl1.1 l0 cl1.2
        rw [q1, q2, q3] at hK
        refine ⟨fun h9 => absurd h9 (by decide), fun _ => ?_⟩
        have this := lp_nm3 (E := E) (d := d) (A := A) (A0 := A) (B := B) (K := K) (c := c) (b := tb c k e) (z := bt c k (tb c k e)) hk hc h6 hK (tb c k e, upd (upd (upd F 8 (F 7)) 10 0) 9 2) ⟨hb, rfl, rs _ _ _, f7, f7, rfl, rfl⟩
        have this : mSem E (d + 1) nX9_next (SH, A, B) 0 0 K 131 [some (.ref 74), some (.int (bt c k (tb c k e)))] [] (SH, va_up A 74 (upd (upd (upd F 8 (F 7)) 10 0) 9 2), B) := this
        rw [← ru] at this
        exact hax _ _ _ _ this
      · have d0 : isD (c (tb c k e)) = false := by
          cases q : isD (c (tb c k e)) with
          | false => rfl
          | true => exact absurd (bt_D.mpr ⟨c0, q⟩) b0
        obtain ⟨q1, q2, q3⟩ := tk3 c0 l0 d0
        rw [q1, q2, q3] at hK
        refine ⟨fun _ => ?_, fun h9 => absurd h9 (by decide)⟩
        have this := hK (upd (upd (upd (upd F 8 (F 7)) 10 0) 9 3) 8 (F 7 + 1)) (fun q hq => by rw [ud_n (by omega)]; exact rs _ _ _ q hq) f7 (by show F 7 + 1 = _; rw [f7, nI_1]) rfl rfl
        rw [← up_up (F := upd (upd (upd F 8 (F 7)) 10 0) 9 3), ← ru] at this
        exact this
  · rw [bt_0 hp] at c0
    obtain ⟨q1, q2, q3⟩ := tk0 c0
    rw [q1, q2, q3] at hK
    have this := hK (upd (upd (upd F 8 (F 7)) 10 0) 9 0) (rs _ _ _) f7 f7 rfl rfl
    rw [← ru] at this
    exact this
