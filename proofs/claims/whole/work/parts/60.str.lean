/-! SETS OF HOUSES -/
set_option maxRecDepth 100000 in
theorem bits64 : ∀ a, a < 64 → ∀ b, b < 64 → 64 * a + b = 0 ∨ (nI (64 * a + b) &&& (nI (64 * a + b) - 1) = nI ((64 * a + b) &&& (64 * a + b - 1)) ∧ bcE (nI ((64 * a + b) &&& (64 * a + b - 1))) + 1 = bcE (nI (64 * a + b)) ∧ ((64 * a + b) &&& (64 * a + b - 1)) < 64 * a + b) := by decide +kernel
theorem bits_s {x : Nat} (hx : x < 4096) (h0 : ¬ x = 0) : ∃ z, z < x ∧ nI x &&& (nI x - 1) = nI z ∧ bcE (nI z) + 1 = bcE (nI x) := by
  have q := bits64 (x / 64) (by omega) (x % 64) (by omega)
  rw [show 64 * (x / 64) + x % 64 = x by omega] at q
  rcases q with q | ⟨q1, q2, q3⟩
  · exact absurd q h0
  · exact ⟨_, q3, q1, q2⟩
theorem lp_bits {E : ME} {d : Nat} {h h0 : MH} {K : MK} {s : Int32} (hK : K (some (.int (bcE s))) h) : ∀ p : Nat × Int32, (p.1 < 4096 ∧ bcE (nI p.1) + p.2 = bcE s) → mSem E d nX9_bits h0 0 0 K 4 [some (.int s), some (.int p.2), some (.int (nI p.1))] [] h := by
  refine mSem_loop (σ := Nat × Int32) (h0 := h0) MX9_bits rfl aX9_bits 300 [4] (fun p => [some (.int s), some (.int p.2), some (.int (nI p.1))]) (fun p => h) (fun p => p.1 < 4096 ∧ bcE (nI p.1) + p.2 = bcE s) (fun p => p.1) ?_
  rintro ⟨x, c⟩ ⟨hx, hI⟩ cl ax hcl hax hlp
  have hx : x < 4096 := hx
  have hI : bcE (nI x) + c = bcE s := hI
  refine ⟨fun (q : nI x = 0) => ?_, fun (q : ¬ nI x = 0) => ?_⟩
  · have : x = 0 := (nI_eq (by omega) (by omega)).mp (show nI x = nI 0 from q)
    subst this
    have e : c = bcE s := by
      rw [← hI, show bcE (nI 0) = 0 from by decide]
      grind
    rw [← e] at hK
    exact hK
  · obtain ⟨z, z1, z2, z3⟩ := bits_s hx (fun e => q (by rw [e]; rfl))
    have this : ax 4 [some (.int s), some (.int (c + 1)), some (.int (nI z))] [] h := hlp (z, c + 1) ⟨by show z < 4096; omega, by show bcE (nI z) + (c + 1) = bcE s; rw [← hI, ← z3]; grind⟩ z1
    rw [← z2] at this
    exact this
theorem w_bits {E : ME} {d : Nat} {h : MH} {K : MK} {s : Int32} (m : Nat) (hm : m < 4096) (es : s = nI m) (hK : K (some (.int (bcE s))) h) : mCall E d nX9_bits [.int s] h K := by
  subst es
  refine mCall_sem MX9_bits rfl rfl (Or.inl ⟨rfl, rfl, rfl⟩) rfl (mSem_wp MX9_bits rfl aX9_bits 300 [4] (fun cl ax hcl hax => ?_))
  exact hax _ _ _ _ (lp_bits hK (m, 0) ⟨hm, by show bcE (nI m) + 0 = bcE (nI m); generalize bcE (nI m) = x; grind⟩)
theorem sh12 : ∀ k, k < 13 → ((1 : Int32) <<< (nI k &&& 31)) - 1 ≤ 4095 := by decide
/-- is it a set of houses -/
def SET (k : Nat) (s : Int32) : Prop := 0 ≤ s ∧ s ≤ ((1 : Int32) <<< (nI k &&& 31)) - 1 ∧ 2 ≤ bcE s
theorem w_isSetOf {E : ME} {d : Nat} {A : Nat → Nat → Int32} {B : Nat → Nat → Int64} {K : MK} {k : Nat} {s : Int32} (hx : A 4 0 = nI k) (k1 : SET k s → K (some (.int 1)) (SH, A, B)) (k0 : ¬ SET k s → K (some (.int 0)) (SH, A, B)) : mCall E (d + 1) nX8_isSetOfHouses [.ref 0, .int s] (SH, A, B) K := by
  refine mCall_sem MX8_isSetOfHouses rfl rfl (Or.inl ⟨rfl, rfl, rfl⟩) rfl (mSem_wp MX8_isSetOfHouses rfl aX8_isSetOfHouses 300 [] (fun cl ax hcl hax => ?_))
  refine hcl _ _ _ _ (w_X8 (fun a1 a2 => ?_) (fun a0 => ?_))
  · have a2 : s ≤ ((1 : Int32) <<< (A 4 0 &&& 31)) - 1 := a2
    rw [hx] at a2
    refine ⟨fun h9 => absurd h9 (by decide), fun _ => ?_⟩
    refine hcl _ _ _ _ (w_bitCount ?_)
    refine ⟨fun (c : bcE s < 2) => ⟨rfl, k0 (fun q => ?_)⟩, fun (c : ¬ bcE s < 2) => ⟨rfl, k1 ⟨a1, a2, ?_⟩⟩⟩
    · have q := q.2.2
      generalize bcE s = z at q c
      clear hcl hax k0 k1
      grind
    · generalize bcE s = z at c
      clear hcl hax k0 k1
      grind
  · have a0 : ¬ (0 ≤ s ∧ s ≤ ((1 : Int32) <<< (A 4 0 &&& 31)) - 1) := a0
    rw [hx] at a0
    refine ⟨fun _ => ?_, fun h9 => absurd h9 (by decide)⟩
    exact ⟨rfl, k0 (fun q => a0 ⟨q.1, q.2.1⟩)⟩
theorem SET_ix {k : Nat} (hk : k ≤ 12) {s : Int32} (a1 : 0 ≤ s) (a2 : s ≤ ((1 : Int32) <<< (nI k &&& 31)) - 1) : ∃ m, m < 4096 ∧ s = nI m := by
  have q := sh12 k (by omega)
  have q2 : s ≤ 4095 := by
    generalize ((1 : Int32) <<< (nI k &&& 31)) - 1 = z at a2 q
    grind
  obtain ⟨m, hm, e⟩ := ix_le (M := 4095) 4095 a1 q2 (by decide)
  exact ⟨m, by omega, e⟩
theorem w_isSet {E : ME} {d : Nat} {A : Nat → Nat → Int32} {B : Nat → Nat → Int64} {K : MK} {k : Nat} {s : Int32} (hk : k ≤ 12) (hx : A 75 3 = nI k) (k1 : SET k s → K (some (.int 1)) (SH, A, B)) (k0 : ¬ SET k s → K (some (.int 0)) (SH, A, B)) : mCall E (d + 1) nX9_isSet [.ref 74, .int s] (SH, A, B) K := by
  refine mCall_sem MX9_isSet rfl rfl (Or.inl ⟨rfl, rfl, rfl⟩) rfl (mSem_wp MX9_isSet rfl aX9_isSet 300 [] (fun cl ax hcl hax => ?_))
  refine ⟨vl 3 rfl rfl, ?_⟩
  refine hcl _ _ _ _ (w_X9 (fun a1 a2 => ?_) (fun a0 => ?_))
  · have a2 : s ≤ ((1 : Int32) <<< (A 75 3 &&& 31)) - 1 := a2
    rw [hx] at a2
    obtain ⟨m, hm, em⟩ := SET_ix hk a1 a2
    refine ⟨fun h9 => absurd h9 (by decide), fun _ => ?_⟩
    refine hcl _ _ _ _ (w_bits m hm em ?_)
    refine ⟨fun (c : bcE s < 2) => ⟨rfl, k0 (fun q => ?_)⟩, fun (c : ¬ bcE s < 2) => ⟨rfl, k1 ⟨a1, a2, ?_⟩⟩⟩
    · have q := q.2.2
      generalize bcE s = z at q c
      clear hcl hax k0 k1
      grind
    · generalize bcE s = z at c
      clear hcl hax k0 k1
      grind
  · have a0 : ¬ (0 ≤ s ∧ s ≤ ((1 : Int32) <<< (A 75 3 &&& 31)) - 1) := a0
    rw [hx] at a0
    refine ⟨fun _ => ?_, fun h9 => absurd h9 (by decide)⟩
    exact ⟨rfl, k0 (fun q => a0 ⟨q.1, q.2.1⟩)⟩
/-! STRAIGHT: what it is -/
def SB (s : Int32) (a : Nat) : Prop := (s >>> (nI a &&& 31)) &&& 1 = 1
def SPa (S : Nat → Prop) (ln ft gn : Nat → Int32) (k : Nat) : Prop := (∀ a, a < k → S a → gn a = 0) ∧ (∀ a b, a < k → b < k → S a → S b → ln a - ln b = 0 → ft a - ft b ≤ 5) ∧ (∀ a b c d, a < k → b < k → c < k → d < k → S a → S b → S c → S d → ln a - ln b = 1 → ln c - ln d = 1 → (ft a - ft b) - (ft c - ft d) ≤ 5)
theorem SPa_c {S : Nat → Prop} {ln ft gn ln' ft' gn' : Nat → Int32} {k : Nat} (h : ∀ a, a < k → S a → ln a = ln' a ∧ ft a = ft' a ∧ gn a = gn' a) (q : SPa S ln ft gn k) : SPa S ln' ft' gn' k := by
  obtain ⟨q1, q2, q3⟩ := q
  refine ⟨fun a ha sa => ?_, fun a b ha hb sa sb => ?_, fun a b c d ha hb hc hd sa sb sc sd => ?_⟩
  · rw [← (h a ha sa).2.2]; exact q1 a ha sa
  · rw [← (h a ha sa).1, ← (h a ha sa).2.1, ← (h b hb sb).1, ← (h b hb sb).2.1]; exact q2 a b ha hb sa sb
  · rw [← (h a ha sa).1, ← (h a ha sa).2.1, ← (h b hb sb).1, ← (h b hb sb).2.1, ← (h c hc sc).1, ← (h c hc sc).2.1, ← (h d hd sd).1, ← (h d hd sd).2.1]; exact q3 a b c d ha hb hc hd sa sb sc sd
