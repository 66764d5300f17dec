/-! THE TEXT: runs, tokens -/
def isL (x : Int32) : Bool := decide (97 ≤ x) && decide (x ≤ 122)
def isD (x : Int32) : Bool := decide (48 ≤ x) && decide (x ≤ 57)
def isB (x : Int32) : Bool := decide (x = 32)
theorem isL_t {x : Int32} : isL x = true ↔ 97 ≤ x ∧ x ≤ 122 := by simp [isL]
theorem isD_t {x : Int32} : isD x = true ↔ 48 ≤ x ∧ x ≤ 57 := by simp [isD]
theorem isB_t {x : Int32} : isB x = true ↔ x = 32 := by simp [isB]
def rn (p : Int32 → Bool) (c : Nat → Int32) (k : Nat) : Nat → Nat → Nat
  | 0, e => e
  | f + 1, e => match decide (e < k) && p (c e) with
    | true => rn p c k f (e + 1)
    | false => e
def rU (p : Int32 → Bool) (c : Nat → Int32) (k e : Nat) : Nat := rn p c k (k - e) e
theorem rU_t {p : Int32 → Bool} {c : Nat → Int32} {k e : Nat} (h : e < k) (hp : p (c e) = true) : rU p c k e = rU p c k (e + 1) := by
  unfold rU
  rw [show k - e = (k - (e + 1)) + 1 by omega, rn]
  simp [h, hp]
theorem rU_f {p : Int32 → Bool} {c : Nat → Int32} {k e : Nat} (h : ¬ (e < k ∧ p (c e) = true)) : rU p c k e = e := by
  unfold rU
  cases hk : k - e with
  | zero => rfl
  | succ m =>
    rw [rn]
    have : (decide (e < k) && p (c e)) = false := by
      cases hp : p (c e) with
      | false => simp
      | true => exact absurd ⟨by omega, hp⟩ h
    rw [this]
theorem rn_ge (p : Int32 → Bool) (c : Nat → Int32) (k : Nat) : ∀ f e, e ≤ rn p c k f e
  | 0, e => Nat.le_refl _
  | f + 1, e => by
    rw [rn]
    split
    · have := rn_ge p c k f (e + 1); omega
    · exact Nat.le_refl _
theorem rn_le (p : Int32 → Bool) (c : Nat → Int32) (k : Nat) : ∀ f e, e ≤ k → rn p c k f e ≤ k
  | 0, e, h => h
  | f + 1, e, h => by
    rw [rn]
    split
    · rename_i q
      have : e < k := by simp at q; exact q.1
      exact rn_le p c k f (e + 1) (by omega)
    · exact h
theorem rU_ge (p : Int32 → Bool) (c : Nat → Int32) (k e : Nat) : e ≤ rU p c k e := rn_ge p c k _ e
theorem rU_le {p : Int32 → Bool} {c : Nat → Int32} {k e : Nat} (h : e ≤ k) : rU p c k e ≤ k := rn_le p c k _ e h
theorem rU_gt {p : Int32 → Bool} {c : Nat → Int32} {k e : Nat} : e < rU p c k e ↔ e < k ∧ p (c e) = true := by
  constructor
  · intro h
    refine Classical.byContradiction (fun q => ?_)
    rw [rU_f q] at h
    omega
  · rintro ⟨h, hp⟩
    rw [rU_t h hp]
    have := rU_ge p c k (e + 1)
    omega
def dg1 (v x : Int32) : Int32 := mn (v * 10 + x - 48) 10000
def vr (c : Nat → Int32) (k : Nat) : Nat → Nat → Int32 → Int32
  | 0, _, v => v
  | f + 1, e, v => match decide (e < k) && isD (c e) with
    | true => vr c k f (e + 1) (dg1 v (c e))
    | false => v
def vU (c : Nat → Int32) (k e : Nat) (v : Int32) : Int32 := vr c k (k - e) e v
theorem vU_t {c : Nat → Int32} {k e : Nat} {v : Int32} (h : e < k) (hp : isD (c e) = true) : vU c k e v = vU c k (e + 1) (dg1 v (c e)) := by
  unfold vU
  rw [show k - e = (k - (e + 1)) + 1 by omega, vr]
  simp [h, hp]
theorem vU_f {c : Nat → Int32} {k e : Nat} {v : Int32} (h : ¬ (e < k ∧ isD (c e) = true)) : vU c k e v = v := by
  unfold vU
  cases hk : k - e with
  | zero => rfl
  | succ m =>
    rw [vr]
    have : (decide (e < k) && isD (c e)) = false := by
      cases hp : isD (c e) with
      | false => simp
      | true => exact absurd ⟨by omega, hp⟩ h
    rw [this]
def tb (c : Nat → Int32) (k e : Nat) : Nat := rU isB c k e
def ts (c : Nat → Int32) (k e : Nat) : Nat := if tb c k e < k then (match isL (c (tb c k e)) with
  | true => 1
  | false => match isD (c (tb c k e)) with
    | true => 2
    | false => 3) else 0
def te (c : Nat → Int32) (k e : Nat) : Nat := if tb c k e < k then (match isL (c (tb c k e)) with
  | true => rU isL c k (tb c k e)
  | false => match isD (c (tb c k e)) with
    | true => rU isD c k (tb c k e)
    | false => tb c k e + 1) else tb c k e
def tv (c : Nat → Int32) (k e : Nat) : Int32 := if tb c k e < k then (match isL (c (tb c k e)) with
  | true => 0
  | false => match isD (c (tb c k e)) with
    | true => vU c k (tb c k e) 0
    | false => 0) else 0
theorem LD {x : Int32} (h : isL x = true) : isD x = false := by
  cases q : isD x with
  | false => rfl
  | true =>
    exfalso
    have a := isL_t.mp h
    have b := isD_t.mp q
    clear h q
    grind
theorem tk0 {c : Nat → Int32} {k e : Nat} (h : ¬ tb c k e < k) : ts c k e = 0 ∧ te c k e = tb c k e ∧ tv c k e = 0 := by
  unfold ts te tv
  rw [if_neg h, if_neg h, if_neg h]
  exact ⟨rfl, rfl, rfl⟩
theorem tk1 {c : Nat → Int32} {k e : Nat} (h : tb c k e < k) (hl : isL (c (tb c k e)) = true) : ts c k e = 1 ∧ te c k e = rU isL c k (tb c k e) ∧ tv c k e = 0 := by
  unfold ts te tv
  rw [if_pos h, if_pos h, if_pos h, hl]
  exact ⟨rfl, rfl, rfl⟩
theorem tk2 {c : Nat → Int32} {k e : Nat} (h : tb c k e < k) (hl : isL (c (tb c k e)) = false) (hd : isD (c (tb c k e)) = true) : ts c k e = 2 ∧ te c k e = rU isD c k (tb c k e) ∧ tv c k e = vU c k (tb c k e) 0 := by
  unfold ts te tv
  rw [if_pos h, if_pos h, if_pos h, hl, hd]
  exact ⟨rfl, rfl, rfl⟩
theorem tk3 {c : Nat → Int32} {k e : Nat} (h : tb c k e < k) (hl : isL (c (tb c k e)) = false) (hd : isD (c (tb c k e)) = false) : ts c k e = 3 ∧ te c k e = tb c k e + 1 ∧ tv c k e = 0 := by
  unfold ts te tv
  rw [if_pos h, if_pos h, if_pos h, hl, hd]
  exact ⟨rfl, rfl, rfl⟩
/-- the four sorts of tokens -/
theorem tk_b (c : Nat → Int32) {k e : Nat} (he : e ≤ k) : e ≤ tb c k e ∧ tb c k e ≤ te c k e ∧ te c k e ≤ k ∧ ts c k e ≤ 3 ∧ (ts c k e = 0 ∨ (tb c k e < te c k e ∧ tb c k e < k)) := by
  have h1 : e ≤ tb c k e := rU_ge _ _ _ _
  have h2 : tb c k e ≤ k := rU_le he
  by_cases h : tb c k e < k
  · cases hl : isL (c (tb c k e)) with
    | true =>
      obtain ⟨q1, q2, q3⟩ := tk1 h hl
      have a := (rU_gt (p := isL) (c := c)).mpr ⟨h, hl⟩
      have b := rU_le (p := isL) (c := c) h2
      rw [q1, q2]
      exact ⟨h1, by omega, b, by omega, Or.inr ⟨a, h⟩⟩
    | false =>
      cases hd : isD (c (tb c k e)) with
      | true =>
        obtain ⟨q1, q2, q3⟩ := tk2 h hl hd
        have a := (rU_gt (p := isD) (c := c)).mpr ⟨h, hd⟩
        have b := rU_le (p := isD) (c := c) h2
        rw [q1, q2]
        exact ⟨h1, by omega, b, by omega, Or.inr ⟨a, h⟩⟩
      | false =>
        obtain ⟨q1, q2, q3⟩ := tk3 h hl hd
        rw [q1, q2]
        exact ⟨h1, by omega, by omega, by omega, Or.inr ⟨by omega, h⟩⟩
  · obtain ⟨q1, q2, q3⟩ := tk0 h
    rw [q1, q2]
    exact ⟨h1, by omega, h2, by omega, Or.inl rfl⟩
/-- X's token -/
def tx (c : Nat → Int32) (k e : Nat) : Int32 := if ts c k e = 3 ∧ ¬ c (tb c k e) = 59 then 4 else nI (ts c k e)
def TX (c : Nat → Int32) (k : Nat) (F : Nat → Int32) (e : Nat) : Prop := F 0 = nI k ∧ F 3 = tx c k e ∧ F 4 = nI (tb c k e) ∧ F 5 = nI (te c k e) ∧ (ts c k e = 2 → F 6 = tv c k e)
theorem w_isLetter {E : ME} {d : Nat} {x : Int32} {h : MH} {K : MK} (k1 : isL x = true → K (some (.int 1)) h) (k0 : ¬ isL x = true → K (some (.int 0)) h) : mCall E d nX6_isLetter [.int x] h K := by
  refine mCall_sem MX6_isLetter rfl rfl (Or.inl ⟨rfl, rfl, rfl⟩) rfl (mSem_wp MX6_isLetter rfl aX6_isLetter 300 [] (fun cl ax hcl hax => ?_))
  refine ⟨fun c1 => ⟨rfl, k0 (fun q => ?_)⟩, fun c1 => ⟨fun c2 => ⟨rfl, k0 (fun q => ?_)⟩, fun c2 => ⟨rfl, k1 (isL_t.mpr ⟨?_, ?_⟩)⟩⟩⟩
  · have q := isL_t.mp q; clear k0 k1 hcl hax; grind
  · have q := isL_t.mp q; clear k0 k1 hcl hax; grind
  · clear k0 k1 hcl hax; grind
  · clear k0 k1 hcl hax; grind
theorem w_isDigit {E : ME} {d : Nat} {x : Int32} {h : MH} {K : MK} (k1 : isD x = true → K (some (.int 1)) h) (k0 : ¬ isD x = true → K (some (.int 0)) h) : mCall E d nX6_isDigit [.int x] h K := by
  refine mCall_sem MX6_isDigit rfl rfl (Or.inl ⟨rfl, rfl, rfl⟩) rfl (mSem_wp MX6_isDigit rfl aX6_isDigit 300 [] (fun cl ax hcl hax => ?_))
  refine ⟨fun c1 => ⟨rfl, k0 (fun q => ?_)⟩, fun c1 => ⟨fun c2 => ⟨rfl, k0 (fun q => ?_)⟩, fun c2 => ⟨rfl, k1 (isD_t.mpr ⟨?_, ?_⟩)⟩⟩⟩
  · have q := isD_t.mp q; clear k0 k1 hcl hax; grind
  · have q := isD_t.mp q; clear k0 k1 hcl hax; grind
  · clear k0 k1 hcl hax; grind
  · clear k0 k1 hcl hax; grind
