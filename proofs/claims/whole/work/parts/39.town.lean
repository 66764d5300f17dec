/-! TOWNS TAKEN -/
theorem cpy_lt {f g : Nat → Int32} {n q : Nat} (h : q < n) : va_cpy f g 0 0 n q = f q := by
  simp [va_cpy, h]
theorem up3 {α : Type} {A : Nat → α} {a : Nat} (F F' : α) {F2 : α} : va_up (va_up (va_up A a F) a F') a F2 = va_up A a F2 := by
  rw [up_up, up_up]
theorem rIce_m {A A' : Nat → Nat → Int32} {i p n i' p' n' : Nat} (h : rIce A i p n) (h1 : A' i' 0 = A i 0 ∧ A' i' 1 = A i 1 ∧ A' i' 2 = A i 2) (h2 : ∀ q, q < 9 → A' p' q = A p q) (h3 : ∀ q, q < 135 → A' n' q = A n q) : rIce A' i' p' n' := by
  obtain ⟨⟨e1, e2, e3⟩, e4, e5, e6, e7, e8⟩ := h
  refine ⟨⟨?_, ?_, ?_⟩, fun j hj => ?_, ?_, ?_, ?_, fun j hj => ?_⟩
  · rw [h1.1, h3 0 (by omega)]; exact e1
  · rw [h1.2.1, h3 2 (by omega)]; exact e2
  · rw [h1.2.2, h3 1 (by omega)]; exact e3
  · rw [h2 j hj, h3 (6 + j) (by omega)]; exact e4 j hj
  · rw [h3 0 (by omega)]; exact e5
  · rw [h3 1 (by omega)]; exact e6
  · rw [h3 2 (by omega)]; exact e7
  · rw [h3 (6 + j) (by omega)]; exact e8 j hj
theorem rHou_m {A A' : Nat → Nat → Int32} {h a b c d g n h' a' b' c' d' g' n' k : Nat} (hr : rHou A h a b c d g n) (hk : A h 0 = nI k) (h12 : k ≤ 12) (h1 : A' h' 0 = A h 0) (h2 : ∀ j, j < k → A' a' j = A a j ∧ A' b' j = A b j ∧ A' c' j = A c j ∧ A' d' j = A d j ∧ A' g' j = A g j) (h3 : ∀ q, q < 135 → A' n' q = A n q) : rHou A' h' a' b' c' d' g' n' := by
  obtain ⟨k', k1, k2, k3, k4⟩ := hr
  have : k' = k := (nI_eq (by omega) (by omega)).mp (k2.symm.trans hk)
  subst this
  refine ⟨k', k1, by rw [h1]; exact k2, by rw [h3 3 (by omega)]; exact k3, fun j hj => ?_⟩
  have q := h2 j hj
  rw [q.1, q.2.1, q.2.2.1, q.2.2.2.1, q.2.2.2.2, h3 0 (by omega), h3 (15 + 5 * j) (by omega), h3 (16 + 5 * j) (by omega), h3 (17 + 5 * j) (by omega), h3 (18 + 5 * j) (by omega), h3 (19 + 5 * j) (by omega)]
  exact k4 j hj
theorem rDee_m {A A' : Nat → Nat → Int32} {h a b n h' a' b' n' : Nat} (hr : rDee A h a b n) (h1 : A' h' 0 = A h 0) (h2 : ∀ j, j < 10 → A' a' j = A a j) (h4 : ∀ j, j < 10 → A' b' j = A b j) (h3 : ∀ q, q < 135 → A' n' q = A n q) : rDee A' h' a' b' n' := by
  obtain ⟨k, k1, k2, k3, k4⟩ := hr
  refine ⟨k, k1, by rw [h1]; exact k2, by rw [h3 4 (by omega)]; exact k3, fun j hj => ?_⟩
  rw [h2 j (by omega), h4 j (by omega), h3 (75 + 2 * j) (by omega), h3 (76 + 2 * j) (by omega)]
  exact k4 j hj
theorem rSta_m {A A' : Nat → Nat → Int32} {h a b c d n h' a' b' c' d' n' : Nat} (hr : rSta A h a b c d n) (h1 : A' h' 0 = A h 0) (h2 : ∀ j, j < 10 → A' a' j = A a j) (h4 : ∀ j, j < 10 → A' b' j = A b j) (h5 : ∀ j, j < 10 → A' c' j = A c j) (h6 : ∀ j, j < 10 → A' d' j = A d j) (h3 : ∀ q, q < 135 → A' n' q = A n q) : rSta A' h' a' b' c' d' n' := by
  obtain ⟨k, k1, k2, k3, k4⟩ := hr
  refine ⟨k, k1, by rw [h1]; exact k2, by rw [h3 5 (by omega)]; exact k3, fun j hj => ?_⟩
  rw [h2 j (by omega), h4 j (by omega), h5 j (by omega), h6 j (by omega), h3 (95 + 4 * j) (by omega), h3 (96 + 4 * j) (by omega), h3 (97 + 4 * j) (by omega), h3 (98 + 4 * j) (by omega)]
  exact k4 j hj
theorem w_iceT1_18 {E : ME} {d : Nat} {A : Nat → Nat → Int32} {B : Nat → Nat → Int64} {K : MK} (hK : K none (SH, va_up (va_up A 2 (upd (upd (upd (A 2) 0 (A 19 0)) 1 (A 19 1)) 2 (A 19 2))) 3 (va_cpy (A 20) (A 3) 0 0 9), B)) : mCall E (d + 1) nX2_takeFrom [.ref 2, .ref 19] (SH, A, B) K := by
  rw [← up3 (a := 2) (upd (A 2) 0 (A 19 0)) (upd (upd (A 2) 0 (A 19 0)) 1 (A 19 1))] at hK
  refine mCall_sem MX2_takeFrom rfl rfl (Or.inl ⟨rfl, rfl, rfl⟩) rfl (mSem_wp MX2_takeFrom rfl aX2_takeFrom 300 [] (fun cl ax hcl hax => ?_))
  exact ⟨by decide, by decide, by decide, by decide, by decide, hK⟩
theorem w_deeT1_18 {E : ME} {d : Nat} {A : Nat → Nat → Int32} {B : Nat → Nat → Int64} {K : MK} (hK : K none (SH, va_up (va_up (va_up A 10 (upd (A 10) 0 (A 27 0))) 11 (va_cpy (A 28) (A 11) 0 0 10)) 12 (va_cpy (A 29) (A 12) 0 0 10), B)) : mCall E (d + 1) nX0_takeFrom [.ref 10, .ref 27] (SH, A, B) K := by
  refine mCall_sem MX0_takeFrom rfl rfl (Or.inl ⟨rfl, rfl, rfl⟩) rfl (mSem_wp MX0_takeFrom rfl aX0_takeFrom 300 [] (fun cl ax hcl hax => ?_))
  refine ⟨by decide, by decide, by decide, by decide, by decide, ?_⟩
  exact ⟨by decide, by decide, by decide, by decide, by decide, hK⟩
theorem w_staT1_18 {E : ME} {d : Nat} {A : Nat → Nat → Int32} {B : Nat → Nat → Int64} {K : MK} (hK : K none (SH, va_up (va_up (va_up (va_up (va_up A 13 (upd (A 13) 0 (A 30 0))) 14 (va_cpy (A 31) (A 14) 0 0 10)) 15 (va_cpy (A 32) (A 15) 0 0 10)) 16 (va_cpy (A 33) (A 16) 0 0 10)) 17 (va_cpy (A 34) (A 17) 0 0 10), B)) : mCall E (d + 1) nX4_takeFrom [.ref 13, .ref 30] (SH, A, B) K := by
  refine mCall_sem MX4_takeFrom rfl rfl (Or.inl ⟨rfl, rfl, rfl⟩) rfl (mSem_wp MX4_takeFrom rfl aX4_takeFrom 300 [] (fun cl ax hcl hax => ?_))
  refine ⟨by decide, by decide, by decide, by decide, by decide, ?_⟩
  refine ⟨by decide, by decide, by decide, by decide, by decide, ?_⟩
  refine ⟨by decide, by decide, by decide, by decide, by decide, ?_⟩
  exact ⟨by decide, by decide, by decide, by decide, by decide, hK⟩
def TK1 (A : Nat → Nat → Int32) (I P H D D1 D2 S S1 S2 S3 S4 : Nat → Int32) (v : (Nat → Int32) × (Nat → Int32) × (Nat → Int32) × (Nat → Int32) × (Nat → Int32)) : Nat → Nat → Int32 := va_up (va_up (va_up (va_up (va_up (va_up (va_up (va_up (nb5 (va_up (va_up (va_up A 2 I) 3 P) 4 H) 5 6 7 8 9 v) 10 D) 11 D1) 12 D2) 13 S) 14 S1) 15 S2) 16 S3) 17 S4
theorem w_town1_18 {E : ME} {d : Nat} {A : Nat → Nat → Int32} {B : Nat → Nat → Int64} {K : MK} {k : Nat} (hk : k ≤ 12) (hx : A 21 0 = nI k) (hg : ∀ j, j < k → A 26 j = 0 ∨ A 26 j = 1) (hK : ∀ I P H D D1 D2 S S1 S2 S3 S4 v, (I 0 = A 19 0 ∧ I 1 = A 19 1 ∧ I 2 = A 19 2) → (∀ q, q < 9 → P q = A 20 q) → H 0 = A 21 0 → same5 k A 22 23 24 25 26 v → D 0 = A 27 0 → (∀ q, q < 10 → D1 q = A 28 q) → (∀ q, q < 10 → D2 q = A 29 q) → S 0 = A 30 0 → (∀ q, q < 10 → S1 q = A 31 q) → (∀ q, q < 10 → S2 q = A 32 q) → (∀ q, q < 10 → S3 q = A 33 q) → (∀ q, q < 10 → S4 q = A 34 q) → K none (SH, TK1 A I P H D D1 D2 S S1 S2 S3 S4 v, B)) : mCall E (d + 2) nX7_takeFrom [.ref 1, .ref 18] (SH, A, B) K := by
  refine mCall_sem MX7_takeFrom rfl rfl (Or.inl ⟨rfl, rfl, rfl⟩) rfl (mSem_wp MX7_takeFrom rfl aX7_takeFrom 300 [] (fun cl ax hcl hax => ?_))
  refine hcl _ _ _ _ (w_iceT1_18 ?_)
  refine hcl _ _ _ _ (w_take4_21 hk hx hg (fun v hv => ?_))
  refine hcl _ _ _ _ (w_deeT1_18 ?_)
  refine hcl _ _ _ _ (w_staT1_18 ?_)
  exact hK _ _ _ _ _ _ _ _ _ _ _ v ⟨rfl, rfl, rfl⟩ (fun q hq => cpy_lt hq) rfl hv rfl (fun q hq => cpy_lt hq) (fun q hq => cpy_lt hq) rfl (fun q hq => cpy_lt hq) (fun q hq => cpy_lt hq) (fun q hq => cpy_lt hq) (fun q hq => cpy_lt hq)
theorem w_iceT18_1 {E : ME} {d : Nat} {A : Nat → Nat → Int32} {B : Nat → Nat → Int64} {K : MK} (hK : K none (SH, va_up (va_up A 19 (upd (upd (upd (A 19) 0 (A 2 0)) 1 (A 2 1)) 2 (A 2 2))) 20 (va_cpy (A 3) (A 20) 0 0 9), B)) : mCall E (d + 1) nX2_takeFrom [.ref 19, .ref 2] (SH, A, B) K := by
  rw [← up3 (a := 19) (upd (A 19) 0 (A 2 0)) (upd (upd (A 19) 0 (A 2 0)) 1 (A 2 1))] at hK
  refine mCall_sem MX2_takeFrom rfl rfl (Or.inl ⟨rfl, rfl, rfl⟩) rfl (mSem_wp MX2_takeFrom rfl aX2_takeFrom 300 [] (fun cl ax hcl hax => ?_))
  exact ⟨by decide, by decide, by decide, by decide, by decide, hK⟩
theorem w_deeT18_1 {E : ME} {d : Nat} {A : Nat → Nat → Int32} {B : Nat → Nat → Int64} {K : MK} (hK : K none (SH, va_up (va_up (va_up A 27 (upd (A 27) 0 (A 10 0))) 28 (va_cpy (A 11) (A 28) 0 0 10)) 29 (va_cpy (A 12) (A 29) 0 0 10), B)) : mCall E (d + 1) nX0_takeFrom [.ref 27, .ref 10] (SH, A, B) K := by
  refine mCall_sem MX0_takeFrom rfl rfl (Or.inl ⟨rfl, rfl, rfl⟩) rfl (mSem_wp MX0_takeFrom rfl aX0_takeFrom 300 [] (fun cl ax hcl hax => ?_))
  refine ⟨by decide, by decide, by decide, by decide, by decide, ?_⟩
  exact ⟨by decide, by decide, by decide, by decide, by decide, hK⟩
theorem w_staT18_1 {E : ME} {d : Nat} {A : Nat → Nat → Int32} {B : Nat → Nat → Int64} {K : MK} (hK : K none (SH, va_up (va_up (va_up (va_up (va_up A 30 (upd (A 30) 0 (A 13 0))) 31 (va_cpy (A 14) (A 31) 0 0 10)) 32 (va_cpy (A 15) (A 32) 0 0 10)) 33 (va_cpy (A 16) (A 33) 0 0 10)) 34 (va_cpy (A 17) (A 34) 0 0 10), B)) : mCall E (d + 1) nX4_takeFrom [.ref 30, .ref 13] (SH, A, B) K := by
  refine mCall_sem MX4_takeFrom rfl rfl (Or.inl ⟨rfl, rfl, rfl⟩) rfl (mSem_wp MX4_takeFrom rfl aX4_takeFrom 300 [] (fun cl ax hcl hax => ?_))
  refine ⟨by decide, by decide, by decide, by decide, by decide, ?_⟩
  refine ⟨by decide, by decide, by decide, by decide, by decide, ?_⟩
  refine ⟨by decide, by decide, by decide, by decide, by decide, ?_⟩
  exact ⟨by decide, by decide, by decide, by decide, by decide, hK⟩
def TK18 (A : Nat → Nat → Int32) (I P H D D1 D2 S S1 S2 S3 S4 : Nat → Int32) (v : (Nat → Int32) × (Nat → Int32) × (Nat → Int32) × (Nat → Int32) × (Nat → Int32)) : Nat → Nat → Int32 := va_up (va_up (va_up (va_up (va_up (va_up (va_up (va_up (nb5 (va_up (va_up (va_up A 19 I) 20 P) 21 H) 22 23 24 25 26 v) 27 D) 28 D1) 29 D2) 30 S) 31 S1) 32 S2) 33 S3) 34 S4
theorem w_town18_1 {E : ME} {d : Nat} {A : Nat → Nat → Int32} {B : Nat → Nat → Int64} {K : MK} {k : Nat} (hk : k ≤ 12) (hx : A 4 0 = nI k) (hg : ∀ j, j < k → A 9 j = 0 ∨ A 9 j = 1) (hK : ∀ I P H D D1 D2 S S1 S2 S3 S4 v, (I 0 = A 2 0 ∧ I 1 = A 2 1 ∧ I 2 = A 2 2) → (∀ q, q < 9 → P q = A 3 q) → H 0 = A 4 0 → same5 k A 5 6 7 8 9 v → D 0 = A 10 0 → (∀ q, q < 10 → D1 q = A 11 q) → (∀ q, q < 10 → D2 q = A 12 q) → S 0 = A 13 0 → (∀ q, q < 10 → S1 q = A 14 q) → (∀ q, q < 10 → S2 q = A 15 q) → (∀ q, q < 10 → S3 q = A 16 q) → (∀ q, q < 10 → S4 q = A 17 q) → K none (SH, TK18 A I P H D D1 D2 S S1 S2 S3 S4 v, B)) : mCall E (d + 2) nX7_takeFrom [.ref 18, .ref 1] (SH, A, B) K := by
  refine mCall_sem MX7_takeFrom rfl rfl (Or.inl ⟨rfl, rfl, rfl⟩) rfl (mSem_wp MX7_takeFrom rfl aX7_takeFrom 300 [] (fun cl ax hcl hax => ?_))
  refine hcl _ _ _ _ (w_iceT18_1 ?_)
  refine hcl _ _ _ _ (w_take21_4 hk hx hg (fun v hv => ?_))
  refine hcl _ _ _ _ (w_deeT18_1 ?_)
  refine hcl _ _ _ _ (w_staT18_1 ?_)
  exact hK _ _ _ _ _ _ _ _ _ _ _ v ⟨rfl, rfl, rfl⟩ (fun q hq => cpy_lt hq) rfl hv rfl (fun q hq => cpy_lt hq) (fun q hq => cpy_lt hq) rfl (fun q hq => cpy_lt hq) (fun q hq => cpy_lt hq) (fun q hq => cpy_lt hq) (fun q hq => cpy_lt hq)
theorem w_iceT1_46 {E : ME} {d : Nat} {A : Nat → Nat → Int32} {B : Nat → Nat → Int64} {K : MK} (hK : K none (SH, va_up (va_up A 2 (upd (upd (upd (A 2) 0 (A 47 0)) 1 (A 47 1)) 2 (A 47 2))) 3 (va_cpy (A 48) (A 3) 0 0 9), B)) : mCall E (d + 1) nX2_takeFrom [.ref 2, .ref 47] (SH, A, B) K := by
  rw [← up3 (a := 2) (upd (A 2) 0 (A 47 0)) (upd (upd (A 2) 0 (A 47 0)) 1 (A 47 1))] at hK
  refine mCall_sem MX2_takeFrom rfl rfl (Or.inl ⟨rfl, rfl, rfl⟩) rfl (mSem_wp MX2_takeFrom rfl aX2_takeFrom 300 [] (fun cl ax hcl hax => ?_))
  exact ⟨by decide, by decide, by decide, by decide, by decide, hK⟩
theorem w_deeT1_46 {E : ME} {d : Nat} {A : Nat → Nat → Int32} {B : Nat → Nat → Int64} {K : MK} (hK : K none (SH, va_up (va_up (va_up A 10 (upd (A 10) 0 (A 55 0))) 11 (va_cpy (A 56) (A 11) 0 0 10)) 12 (va_cpy (A 57) (A 12) 0 0 10), B)) : mCall E (d + 1) nX0_takeFrom [.ref 10, .ref 55] (SH, A, B) K := by
  refine mCall_sem MX0_takeFrom rfl rfl (Or.inl ⟨rfl, rfl, rfl⟩) rfl (mSem_wp MX0_takeFrom rfl aX0_takeFrom 300 [] (fun cl ax hcl hax => ?_))
  refine ⟨by decide, by decide, by decide, by decide, by decide, ?_⟩
  exact ⟨by decide, by decide, by decide, by decide, by decide, hK⟩
theorem w_staT1_46 {E : ME} {d : Nat} {A : Nat → Nat → Int32} {B : Nat → Nat → Int64} {K : MK} (hK : K none (SH, va_up (va_up (va_up (va_up (va_up A 13 (upd (A 13) 0 (A 58 0))) 14 (va_cpy (A 59) (A 14) 0 0 10)) 15 (va_cpy (A 60) (A 15) 0 0 10)) 16 (va_cpy (A 61) (A 16) 0 0 10)) 17 (va_cpy (A 62) (A 17) 0 0 10), B)) : mCall E (d + 1) nX4_takeFrom [.ref 13, .ref 58] (SH, A, B) K := by
  refine mCall_sem MX4_takeFrom rfl rfl (Or.inl ⟨rfl, rfl, rfl⟩) rfl (mSem_wp MX4_takeFrom rfl aX4_takeFrom 300 [] (fun cl ax hcl hax => ?_))
  refine ⟨by decide, by decide, by decide, by decide, by decide, ?_⟩
  refine ⟨by decide, by decide, by decide, by decide, by decide, ?_⟩
  refine ⟨by decide, by decide, by decide, by decide, by decide, ?_⟩
  exact ⟨by decide, by decide, by decide, by decide, by decide, hK⟩
theorem w_town1_46 {E : ME} {d : Nat} {A : Nat → Nat → Int32} {B : Nat → Nat → Int64} {K : MK} {k : Nat} (hk : k ≤ 12) (hx : A 49 0 = nI k) (hg : ∀ j, j < k → A 54 j = 0 ∨ A 54 j = 1) (hK : ∀ I P H D D1 D2 S S1 S2 S3 S4 v, (I 0 = A 47 0 ∧ I 1 = A 47 1 ∧ I 2 = A 47 2) → (∀ q, q < 9 → P q = A 48 q) → H 0 = A 49 0 → same5 k A 50 51 52 53 54 v → D 0 = A 55 0 → (∀ q, q < 10 → D1 q = A 56 q) → (∀ q, q < 10 → D2 q = A 57 q) → S 0 = A 58 0 → (∀ q, q < 10 → S1 q = A 59 q) → (∀ q, q < 10 → S2 q = A 60 q) → (∀ q, q < 10 → S3 q = A 61 q) → (∀ q, q < 10 → S4 q = A 62 q) → K none (SH, TK1 A I P H D D1 D2 S S1 S2 S3 S4 v, B)) : mCall E (d + 2) nX7_takeFrom [.ref 1, .ref 46] (SH, A, B) K := by
  refine mCall_sem MX7_takeFrom rfl rfl (Or.inl ⟨rfl, rfl, rfl⟩) rfl (mSem_wp MX7_takeFrom rfl aX7_takeFrom 300 [] (fun cl ax hcl hax => ?_))
  refine hcl _ _ _ _ (w_iceT1_46 ?_)
  refine hcl _ _ _ _ (w_take4_49 hk hx hg (fun v hv => ?_))
  refine hcl _ _ _ _ (w_deeT1_46 ?_)
  refine hcl _ _ _ _ (w_staT1_46 ?_)
  exact hK _ _ _ _ _ _ _ _ _ _ _ v ⟨rfl, rfl, rfl⟩ (fun q hq => cpy_lt hq) rfl hv rfl (fun q hq => cpy_lt hq) (fun q hq => cpy_lt hq) rfl (fun q hq => cpy_lt hq) (fun q hq => cpy_lt hq) (fun q hq => cpy_lt hq) (fun q hq => cpy_lt hq)
theorem op_image {E : ME} {A : Nat → Nat → Int32} {B : Nat → Nat → Int64} (h : rAll A B) : rOp E nX8_image nX9_image [] A B := by
  obtain ⟨k, t, hm, hx, hx2⟩ := hM_of h.1
  have hh := rH h.1 hm.2.2.1 hm.1
  refine rOp_of (fun K hK => ?_)
  refine mCall_sem MX8_image rfl rfl (Or.inl ⟨rfl, rfl, rfl⟩) rfl (mSem_wp MX8_image rfl aX8_image 300 [] (fun cl ax hcl hax => ?_))
  refine hcl _ _ _ _ (w_town18_1 hm.1 hx (fun j hj => by rw [(hh j hj).1.2.2.2.2]; exact (hm.2.2.2.2.1 j hj).2) (fun I P H D D1 D2 S S1 S2 S3 S4 v q1 q2 q3 q4 q5 q6 q7 q8 q9 q10 q11 q12 => ?_))
  refine ⟨rfl, rfl, ?_⟩
  refine hK _ _ ?_
  clear hcl hax
  clear cl ax
  refine mCall_k (fun K hK => ?_)
  refine mCall_sem MX9_image rfl rfl (Or.inl ⟨rfl, rfl, rfl⟩) rfl (mSem_wp MX9_image rfl aX9_image 300 [] (fun cl ax hcl hax => ?_))
  refine hcl _ _ _ _ (w_copy75_76 (A := va_up (TK18 A I P H D D1 D2 S S1 S2 S3 S4 v) 0 (upd (A 0) 7 1)) (fun R hR => ?_))
  refine ⟨rfl, rfl, ?_⟩
  have hR : ∀ q, q < 135 → R q = A 75 q := hR
  refine hK _ _ ⟨rfl, rfl, h.1, ⟨rfl, Or.inr ⟨rfl, ?_⟩⟩, h.2.2.1, h.2.2.2.1, h.2.2.2.2⟩
  exact ⟨rIce_m h.1.1 q1 q2 hR, rHou_m h.1.2.1 hx hm.1 q3 q4 hR, rDee_m h.1.2.2.1 q5 q6 q7 hR, rSta_m h.1.2.2.2 q8 q9 q10 q11 q12 hR⟩
theorem op_undo {E : ME} {A : Nat → Nat → Int32} {B : Nat → Nat → Int64} (h : rAll A B) : rOp E nX8_undo nX9_undo [] A B := by
  obtain ⟨t1, t2⟩ := h.2.1
  refine rOp_of (fun K hK => ?_)
  refine mCall_sem MX8_undo rfl rfl (Or.inl ⟨rfl, rfl, rfl⟩) rfl (mSem_wp MX8_undo rfl aX8_undo 300 [] (fun cl ax hcl hax => ?_))
  refine ⟨fun (c : ¬ A 0 7 = 0) => ?_, fun (c : A 0 7 = 0) => ?_⟩
  · obtain ⟨t3, ho⟩ := t2.resolve_left c
    have c2 : ¬ A 74 3 = 0 := fun q => c (t1.trans q)
    obtain ⟨k, k12, kx, km, kh⟩ := ho.2.1
    refine hcl _ _ _ _ (w_town1_18 k12 kx (fun j hj => ?_) (fun I P H D D1 D2 S S1 S2 S3 S4 v q1 q2 q3 q4 q5 q6 q7 q8 q9 q10 q11 q12 => ?_))
    · rw [(kh j hj).1.2.2.2.2]
      rcases (kh j hj).2.2.2.2.2 with q | q
      · exact Or.inl q.1
      · exact Or.inr q
    · refine hK _ _ ?_
      clear hcl hax
      clear cl ax
      refine mCall_k (fun K hK => ?_)
      refine mCall_sem MX9_undo rfl rfl (Or.inl ⟨rfl, rfl, rfl⟩) rfl (mSem_wp MX9_undo rfl aX9_undo 300 [] (fun cl ax hcl hax => ?_))
      refine ⟨fun _ => ?_, fun c3 => absurd c3 c2⟩
      refine hcl _ _ _ _ (w_copy76_75 (A := TK1 A I P H D D1 D2 S S1 S2 S3 S4 v) (fun R hR => ?_))
      have hR : ∀ q, q < 135 → R q = A 76 q := hR
      refine ⟨vl 3 rfl rfl, ?_⟩
      refine hK _ _ ⟨?_, rfl, ⟨rIce_m ho.1 q1 q2 hR, rHou_m ho.2.1 kx k12 q3 q4 hR, rDee_m ho.2.2.1 q5 q6 q7 hR, rSta_m ho.2.2.2 q8 q9 q10 q11 q12 hR⟩, ⟨t1, Or.inr ⟨t3, ho⟩⟩, h.2.2.1, h.2.2.2.1, h.2.2.2.2⟩
      show some (Value.int (H 0)) = some (Value.int (R 3))
      rw [q3, kx, hR 3 (by omega), km]
  · have c2 : A 74 3 = 0 := t1.symm.trans c
    refine hcl _ _ _ _ (w_X8_refuse 3 (by decide) (by decide) ?_)
    refine hK _ _ ?_
    clear hcl hax
    clear cl ax
    refine mCall_k (fun K hK => ?_)
    refine mCall_sem MX9_undo rfl rfl (Or.inl ⟨rfl, rfl, rfl⟩) rfl (mSem_wp MX9_undo rfl aX9_undo 300 [] (fun cl ax hcl hax => ?_))
    refine ⟨fun c3 => absurd c2 c3, fun _ => ?_⟩
    exact hcl _ _ _ _ (w_X9_finding 3 (by decide) (by decide) (hK _ _ (rEnd_cnt h (by decide))))
