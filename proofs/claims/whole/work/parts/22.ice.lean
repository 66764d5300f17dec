/-! FINDINGS; THE ICE -/
theorem mCall_k {E : ME} {d y : Nat} {as : List Value} {h : MH} {K0 : MK} (k : ∀ K : MK, (∀ r h, K0 r h → K r h) → mCall E d y as h K) : mCall E d y as h K0 := k K0 (fun _ _ h => h)
theorem rOp_of {E : ME} {x m : Nat} {as : List Value} {A : Nat → Nat → Int32} {B : Nat → Nat → Int64} (k : ∀ K : MK, (∀ (v : Int32) (q : (Nat → Nat → Int32) × (Nat → Nat → Int64)), mCall E 12 m (.ref 74 :: as) (SH, q) (rEnd (some (.int v))) → K (some (.int v)) (SH, q)) → mCall E 12 x (.ref 0 :: as) (SH, A, B) K) : rOp E x m as A B := k _ (fun v _ h => ⟨⟨v, rfl⟩, rfl, h⟩)
theorem rOpL_of {E : ME} {x m : Nat} {as : List Value} {A : Nat → Nat → Int32} {B : Nat → Nat → Int64} (k : ∀ K : MK, (∀ (v : Int64) (q : (Nat → Nat → Int32) × (Nat → Nat → Int64)), mCall E 12 m (.ref 74 :: as) (SH, q) (rEnd (some (.long v))) → K (some (.long v)) (SH, q)) → mCall E 12 x (.ref 0 :: as) (SH, A, B) K) : rOpL E x m as A B := k _ (fun v _ h => ⟨⟨v, rfl⟩, rfl, h⟩)
theorem rAll_cnt {A : Nat → Nat → Int32} {B : Nat → Nat → Int64} (h : rAll A B) {i : Nat} (hi : i < 7) : rAll (cnt2 (cnt1 A i) i) B := by
  refine ⟨h.1, h.2.1, ?_, h.2.2.2.1, h.2.2.2.2⟩
  obtain ⟨h1, h2⟩ := h.2.2.1
  refine ⟨fun j hj => ?_, ?_⟩
  · have := h1 j hj
    have h3 := h1 i hi
    show (upd (A 73) i (A 73 i + 1)) j = (upd (upd (A 78) (i + 1) (A 78 (i + 1) + 1)) 0 (A 78 0 + 1)) (j + 1)
    simp only [upd]
    grind
  · show (upd (upd (A 78) (i + 1) (A 78 (i + 1) + 1)) 0 (A 78 0 + 1)) 0 = upd (A 73) i (A 73 i + 1) 0 + upd (A 73) i (A 73 i + 1) 1 + upd (A 73) i (A 73 i + 1) 2 + upd (A 73) i (A 73 i + 1) 3 + upd (A 73) i (A 73 i + 1) 4 + upd (A 73) i (A 73 i + 1) 5 + upd (A 73) i (A 73 i + 1) 6
    rcases (show i = 0 ∨ i = 1 ∨ i = 2 ∨ i = 3 ∨ i = 4 ∨ i = 5 ∨ i = 6 by omega) with rfl | rfl | rfl | rfl | rfl | rfl | rfl <;> simp [upd, h2] <;> grind
theorem rEnd_cnt {A : Nat → Nat → Int32} {B : Nat → Nat → Int64} {r : Option Value} (h : rAll A B) {i : Nat} (hi : i < 7) : rEnd r r (SH, cnt2 (cnt1 A i) i, B) := ⟨rfl, rfl, rAll_cnt h hi⟩
theorem w_become {E : ME} {d : Nat} {a v : Int32} {A : Nat → Nat → Int32} {B : Nat → Nat → Int64} {K : MK} (k : Nat) (hk : k < 135) (e : a = nI k) (hK : K (some (.int (A 75 k))) (SH, va_up A 75 (upd (A 75) k v), B)) : mCall E d nX9_become [.ref 74, .int a, .int v] (SH, A, B) K := by
  subst e
  have hv : vp_in (nI k) 135 := vp_in_nI hk (by decide)
  refine mCall_sem MX9_become rfl rfl (Or.inl ⟨rfl, rfl, rfl⟩) rfl (mSem_wp MX9_become rfl aX9_become 300 [] (fun cl ax hcl hax => ?_))
  refine ⟨hv, ?_⟩
  refine ⟨hv, ?_⟩
  conv => whnf
  simp only [msetA, nI_clamp (show k < 2 ^ 31 by omega)]
  exact hK
/-! parts of the state that a change doesn't touch -/
theorem rIce_c {A A' : Nat → Nat → Int32} {i p n : Nat} (h : rIce A i p n) (h1 : A' i = A i) (h2 : A' p = A p) (h3 : ∀ q, q < 3 ∨ (6 ≤ q ∧ q < 15) → A' n q = A n q) : rIce A' i p n := by
  obtain ⟨⟨e1, e2, e3⟩, e4, e5, e6, e7, e8⟩ := h
  refine ⟨⟨?_, ?_, ?_⟩, fun j hj => ?_, ?_, ?_, ?_, fun j hj => ?_⟩
  · rw [h1, h3 0 (by omega)]; exact e1
  · rw [h1, h3 2 (by omega)]; exact e2
  · rw [h1, h3 1 (by omega)]; exact e3
  · rw [h2, h3 (6 + j) (by omega)]; exact e4 j hj
  · rw [h3 0 (by omega)]; exact e5
  · rw [h3 1 (by omega)]; exact e6
  · rw [h3 2 (by omega)]; exact e7
  · rw [h3 (6 + j) (by omega)]; exact e8 j hj
theorem rHou_c {A A' : Nat → Nat → Int32} {h a b c d g n : Nat} (hr : rHou A h a b c d g n) (h1 : A' h = A h) (h2 : A' a = A a) (h3 : A' b = A b) (h4 : A' c = A c) (h5 : A' d = A d) (h6 : A' g = A g) (h7 : ∀ q, q = 0 ∨ q = 3 ∨ (15 ≤ q ∧ q < 75) → A' n q = A n q) : rHou A' h a b c d g n := by
  obtain ⟨k, k1, k2, k3, k4⟩ := hr
  refine ⟨k, k1, by rw [h1]; exact k2, by rw [h7 3 (by omega)]; exact k3, fun j hj => ?_⟩
  rw [h2, h3, h4, h5, h6, h7 0 (by omega), h7 (15 + 5 * j) (by omega), h7 (16 + 5 * j) (by omega), h7 (17 + 5 * j) (by omega), h7 (18 + 5 * j) (by omega), h7 (19 + 5 * j) (by omega)]
  exact k4 j hj
theorem rDee_c {A A' : Nat → Nat → Int32} {h a b n : Nat} (hr : rDee A h a b n) (h1 : A' h = A h) (h2 : A' a = A a) (h3 : A' b = A b) (h7 : ∀ q, q = 4 ∨ (75 ≤ q ∧ q < 95) → A' n q = A n q) : rDee A' h a b n := by
  obtain ⟨k, k1, k2, k3, k4⟩ := hr
  refine ⟨k, k1, by rw [h1]; exact k2, by rw [h7 4 (by omega)]; exact k3, fun j hj => ?_⟩
  rw [h2, h3, h7 (75 + 2 * j) (by omega), h7 (76 + 2 * j) (by omega)]
  exact k4 j hj
theorem rSta_c {A A' : Nat → Nat → Int32} {h a b c d n : Nat} (hr : rSta A h a b c d n) (h1 : A' h = A h) (h2 : A' a = A a) (h3 : A' b = A b) (h4 : A' c = A c) (h5 : A' d = A d) (h7 : ∀ q, q = 5 ∨ (95 ≤ q ∧ q < 135) → A' n q = A n q) : rSta A' h a b c d n := by
  obtain ⟨k, k1, k2, k3, k4⟩ := hr
  refine ⟨k, k1, by rw [h1]; exact k2, by rw [h7 5 (by omega)]; exact k3, fun j hj => ?_⟩
  rw [h2, h3, h4, h5, h7 (95 + 4 * j) (by omega), h7 (96 + 4 * j) (by omega), h7 (97 + 4 * j) (by omega), h7 (98 + 4 * j) (by omega)]
  exact k4 j hj
/-- a pace becomes another -/
theorem rAll_pace {A : Nat → Nat → Int32} {B : Nat → Nat → Int64} (h : rAll A B) {k : Nat} (hk : k < 9) {v : Int32} (h0 : 0 ≤ v) (h1 : v ≤ 60) : rAll (va_up (va_up A 3 (upd (A 3) k v)) 75 (upd (A 75) (6 + k) v)) B := by
  obtain ⟨⟨hi, hh, hd, hs⟩, hk9, hf, ht, hsh⟩ := h
  have n : ∀ q, q < 6 ∨ 15 ≤ q → upd (A 75) (6 + k) v q = A 75 q := fun q hq => ud_n (by omega)
  refine ⟨⟨?_, rHou_c hh rfl rfl rfl rfl rfl rfl (fun q hq => n q (by omega)), rDee_c hd rfl rfl rfl (fun q hq => n q (by omega)), rSta_c hs rfl rfl rfl rfl rfl (fun q hq => n q (by omega))⟩, hk9, hf, ht, hsh⟩
  obtain ⟨⟨e1, e2, e3⟩, e4, e5, e6, e7, e8⟩ := hi
  refine ⟨⟨?_, ?_, ?_⟩, fun j hj => ?_, ?_, ?_, ?_, fun j hj => ?_⟩
  · show A 2 0 = upd (A 75) (6 + k) v 0
    rw [n 0 (by omega)]; exact e1
  · show A 2 1 = upd (A 75) (6 + k) v 2
    rw [n 2 (by omega)]; exact e2
  · show A 2 2 = upd (A 75) (6 + k) v 1
    rw [n 1 (by omega)]; exact e3
  · show upd (A 3) k v j = upd (A 75) (6 + k) v (6 + j)
    have := e4 j hj
    simp only [upd]
    grind
  · show 100 ≤ upd (A 75) (6 + k) v 0 ∧ upd (A 75) (6 + k) v 0 ≤ 9999
    rw [n 0 (by omega)]; exact e5
  · show 0 ≤ upd (A 75) (6 + k) v 1 ∧ upd (A 75) (6 + k) v 1 ≤ 999
    rw [n 1 (by omega)]; exact e6
  · show 0 ≤ upd (A 75) (6 + k) v 2 ∧ upd (A 75) (6 + k) v 2 ≤ 127
    rw [n 2 (by omega)]; exact e7
  · show 0 ≤ upd (A 75) (6 + k) v (6 + j) ∧ upd (A 75) (6 + k) v (6 + j) ≤ 60
    have := e8 j hj
    simp only [upd]
    grind
theorem op_pace {E : ME} {lane v : Int32} {A : Nat → Nat → Int32} {B : Nat → Nat → Int64} (h : rAll A B) : rOp E nX8_pace nX9_pace [.int lane, .int v] A B := by
  have hice := h.1.1
  refine rOp_of (fun K hK => ?_)
  refine mCall_sem MX8_pace rfl rfl (Or.inl ⟨rfl, rfl, rfl⟩) rfl (mSem_wp MX8_pace rfl aX8_pace 300 [] (fun cl ax hcl hax => ?_))
  refine hcl _ _ _ _ (w_X8_isLane (fun a1 a2 => ?_) (fun a0 => ?_))
  · refine ⟨fun h9 => absurd h9 (by decide), fun _ => ?_⟩
    refine hcl _ _ _ _ (w_X8 (fun b1 b2 => ?_) (fun b0 => ?_))
    · refine ⟨fun _ => ?_, fun h9 => absurd h9 (by decide)⟩
      obtain ⟨k, hk, rfl⟩ := ix_le 8 a1 a2 rfl
      have hv : vp_in (nI k) 9 := vp_in_nI (by omega) (by decide)
      refine ⟨hv, ?_⟩
      refine ⟨hv, ?_⟩
      refine hK _ _ ?_
      clear hcl hax
      clear cl ax
      simp only [msetA, nI_clamp (show k < 2 ^ 31 by omega)]
      refine mCall_k (fun K hK => ?_)
      refine mCall_sem MX9_pace rfl rfl (Or.inl ⟨rfl, rfl, rfl⟩) rfl (mSem_wp MX9_pace rfl aX9_pace 300 [] (fun cl ax hcl hax => ?_))
      refine hcl _ _ _ _ (w_X9_isLane (fun _ _ => ?_) (fun a0 => absurd ⟨a1, a2⟩ a0))
      refine ⟨fun h9 => absurd h9 (by decide), fun _ => ?_⟩
      refine hcl _ _ _ _ (w_X9 (fun _ _ => ?_) (fun a0 => absurd ⟨b1, b2⟩ a0))
      refine ⟨fun h9 => absurd h9 (by decide), fun _ => ?_⟩
      refine hcl _ _ _ _ (w_become (6 + k) (by omega) (by rw [← nI_add]; rfl) ?_)
      refine hK _ _ ⟨?_, rfl, rAll_pace h (by omega) b1 b2⟩
      rw [show A 3 k = _ from hice.2.1 k (by omega)]
      rfl
    · refine ⟨fun h9 => absurd h9 (by decide), fun _ => ?_⟩
      refine hcl _ _ _ _ (w_X8_refuse 0 (by decide) (by decide) ?_)
      refine hK _ _ ?_
      clear hcl hax
      clear cl ax
      refine mCall_k (fun K hK => ?_)
      refine mCall_sem MX9_pace rfl rfl (Or.inl ⟨rfl, rfl, rfl⟩) rfl (mSem_wp MX9_pace rfl aX9_pace 300 [] (fun cl ax hcl hax => ?_))
      refine hcl _ _ _ _ (w_X9_isLane (fun _ _ => ?_) (fun a0 => absurd ⟨a1, a2⟩ a0))
      refine ⟨fun h9 => absurd h9 (by decide), fun _ => ?_⟩
      refine hcl _ _ _ _ (w_X9 (fun c1 c2 => absurd ⟨c1, c2⟩ b0) (fun _ => ?_))
      refine ⟨fun _ => ?_, fun h9 => absurd h9 (by decide)⟩
      refine hcl _ _ _ _ (w_X9_finding 0 (by decide) (by decide) ?_)
      exact hK _ _ (rEnd_cnt h (by decide))
  · refine ⟨fun _ => ?_, fun h9 => absurd h9 (by decide)⟩
    refine hcl _ _ _ _ (w_X8_refuse 0 (by decide) (by decide) ?_)
    refine hK _ _ ?_
    clear hcl hax
    clear cl ax
    refine mCall_k (fun K hK => ?_)
    refine mCall_sem MX9_pace rfl rfl (Or.inl ⟨rfl, rfl, rfl⟩) rfl (mSem_wp MX9_pace rfl aX9_pace 300 [] (fun cl ax hcl hax => ?_))
    refine hcl _ _ _ _ (w_X9_isLane (fun c1 c2 => absurd ⟨c1, c2⟩ a0) (fun _ => ?_))
    refine ⟨fun _ => ?_, fun h9 => absurd h9 (by decide)⟩
    refine hcl _ _ _ _ (w_X9_finding 0 (by decide) (by decide) ?_)
    exact hK _ _ (rEnd_cnt h (by decide))
