/-! lies it straight: the model -/
def Wk (k a b x y : Nat) : Prop := y < k ∧ (x < a ∨ (x = a ∧ y < b))
def MA (S : Nat → Prop) (ln : Nat → Int32) (x y : Nat) : Prop := S x ∧ S y ∧ ln x - ln y = 1
def MPq (S : Nat → Prop) (ln ft gn : Nat → Int32) (k a b g : Nat) : Prop := (∀ x, x < g → S x → gn x = 0) ∧ ∀ x y, Wk k a b x y → S x → S y → ln x - ln y = 0 → ft x - ft y ≤ 5
def EXt (S : Nat → Prop) (ln ft : Nat → Int32) (k a b : Nat) (lo hi : Int32) : Prop := (∀ x y, Wk k a b x y → MA S ln x y → lo ≤ ft x - ft y ∧ ft x - ft y ≤ hi) ∧ ((lo = 2147483647 ∧ hi = -2147483648 ∧ ∀ x y, Wk k a b x y → ¬ MA S ln x y) ∨ ((∃ x y, Wk k a b x y ∧ MA S ln x y ∧ lo = ft x - ft y) ∧ ∃ x y, Wk k a b x y ∧ MA S ln x y ∧ hi = ft x - ft y))
def MI3 (S : Nat → Prop) (ln ft gn : Nat → Int32) (k a b g : Nat) (i lo hi : Int32) : Prop := ((i = 1 ∧ MPq S ln ft gn k a b g) ∨ (i = 0 ∧ ¬ MPq S ln ft gn k a b g)) ∧ EXt S ln ft k a b lo hi
theorem MI3_0 {S : Nat → Prop} {ln ft gn : Nat → Int32} {k : Nat} : MI3 S ln ft gn k 0 0 0 1 2147483647 (-2147483648) := by
  have e : ∀ x y, ¬ Wk k 0 0 x y := fun x y h => by
    unfold Wk at h
    omega
  exact ⟨Or.inl ⟨rfl, fun x hx => absurd hx (by omega), fun x y h => absurd h (e x y)⟩, fun x y h => absurd h (e x y), Or.inl ⟨rfl, rfl, fun x y h => absurd h (e x y)⟩⟩
theorem MI3_row {S : Nat → Prop} {ln ft gn : Nat → Int32} {k a g : Nat} {i lo hi : Int32} (h : MI3 S ln ft gn k a k g i lo hi) : MI3 S ln ft gn k (a + 1) 0 g i lo hi := by
  have e : Wk k a k = Wk k (a + 1) 0 := by
    funext x y
    apply propext
    unfold Wk
    omega
  unfold MI3 MPq EXt at h ⊢
  rw [← e]
  exact h
theorem MI3_gone {S : Nat → Prop} {ln ft gn : Nat → Int32} {k a : Nat} {i i' lo hi : Int32} (h : MI3 S ln ft gn k a 0 a i lo hi) (q : (i' = 1 ∧ i = 1 ∧ (S a → gn a = 0)) ∨ (i' = 0 ∧ ¬ (i = 1 ∧ (S a → gn a = 0)))) : MI3 S ln ft gn k a 0 (a + 1) i' lo hi := by
  refine ⟨?_, h.2⟩
  rcases q with ⟨q1, q2, q3⟩ | ⟨q1, q2⟩
  · refine Or.inl ⟨q1, fun x hx sx => ?_, ?_⟩
    · rcases h.1 with ⟨_, z⟩ | ⟨z, _⟩
      · by_cases e : x = a
        · rw [e] at sx ⊢; exact q3 sx
        · exact z.1 x (by omega) sx
      · exact absurd (z.symm.trans q2) (by decide)
    · rcases h.1 with ⟨_, z⟩ | ⟨z, _⟩
      · exact z.2
      · exact absurd (z.symm.trans q2) (by decide)
  · refine Or.inr ⟨q1, fun z => q2 ⟨?_, fun sa => z.1 a (by omega) sa⟩⟩
    rcases h.1 with ⟨y, _⟩ | ⟨_, y⟩
    · exact y
    · exact absurd ⟨fun x hx sx => z.1 x (by omega) sx, z.2⟩ y
theorem MI3_pair {S : Nat → Prop} {ln ft gn : Nat → Int32} {k a b g : Nat} {i i' lo hi lo' hi' : Int32} (hb : b < k) (hf : ∀ x y, x < k → y < k → -9999 ≤ ft x - ft y ∧ ft x - ft y ≤ 9999) (ha : a < k) (h : MI3 S ln ft gn k a b g i lo hi) (q : (i' = 1 ∧ i = 1 ∧ (S a → S b → ln a - ln b = 0 → ft a - ft b ≤ 5)) ∨ (i' = 0 ∧ ¬ (i = 1 ∧ (S a → S b → ln a - ln b = 0 → ft a - ft b ≤ 5)))) (p : (MA S ln a b ∧ lo' = mn lo (ft a - ft b) ∧ hi' = mx hi (ft a - ft b)) ∨ (¬ MA S ln a b ∧ lo' = lo ∧ hi' = hi)) : MI3 S ln ft gn k a (b + 1) g i' lo' hi' := by
  have e : ∀ x y, Wk k a (b + 1) x y → Wk k a b x y ∨ (x = a ∧ y = b) := fun x y h => by
    unfold Wk at h ⊢
    omega
  have e2 : ∀ x y, Wk k a b x y → Wk k a (b + 1) x y := fun x y h => by
    unfold Wk at h ⊢
    omega
  have e3 : Wk k a (b + 1) a b := ⟨hb, Or.inr ⟨rfl, by omega⟩⟩
  refine ⟨?_, ?_⟩
  · rcases q with ⟨q1, q2, q3⟩ | ⟨q1, q2⟩
    · rcases h.1 with ⟨_, z⟩ | ⟨z, _⟩
      · refine Or.inl ⟨q1, z.1, fun x y w sx sy l0 => ?_⟩
        rcases e x y w with w | ⟨w1, w2⟩
        · exact z.2 x y w sx sy l0
        · subst w1; subst w2; exact q3 sx sy l0
      · exact absurd (z.symm.trans q2) (by decide)
    · refine Or.inr ⟨q1, fun z => q2 ⟨?_, fun sa sb l0 => z.2 a b e3 sa sb l0⟩⟩
      rcases h.1 with ⟨y, _⟩ | ⟨_, y⟩
      · exact y
      · exact absurd ⟨z.1, fun x y w => z.2 x y (e2 x y w)⟩ y
  · obtain ⟨h1, h2⟩ := h.2
    have fab := hf a b ha hb
    rcases p with ⟨p1, p2, p3⟩ | ⟨p1, p2, p3⟩
    · subst p2
      subst p3
      refine ⟨fun x y w m => ?_, Or.inr ⟨?_, ?_⟩⟩
      · rcases e x y w with w | ⟨w1, w2⟩
        · have z := h1 x y w m
          exact ⟨Int32.le_trans (mn_l _ _) z.1, Int32.le_trans z.2 (mx_l _ _)⟩
        · subst w1; subst w2
          exact ⟨mn_r _ _, mx_r _ _⟩
      · unfold mn
        split
        · exact ⟨a, b, e3, p1, rfl⟩
        · rename_i c
          rcases h2 with ⟨z1, _, _⟩ | ⟨⟨x, y, w, m⟩, _⟩
          · exfalso
            subst z1
            generalize ft a - ft b = z at fab c
            clear h1 hf h e e2 e3 q
            grind
          · exact ⟨x, y, e2 x y w, m⟩
      · unfold mx
        split
        · exact ⟨a, b, e3, p1, rfl⟩
        · rename_i c
          rcases h2 with ⟨_, z1, _⟩ | ⟨_, ⟨x, y, w, m⟩⟩
          · exfalso
            subst z1
            generalize ft a - ft b = z at fab c
            clear h1 hf h e e2 e3 q
            grind
          · exact ⟨x, y, e2 x y w, m⟩
    · subst p2
      subst p3
      have ne : ∀ x y, Wk k a (b + 1) x y → MA S ln x y → Wk k a b x y := fun x y w m => by
        rcases e x y w with w | ⟨w1, w2⟩
        · exact w
        · subst w1; subst w2; exact absurd m p1
      refine ⟨fun x y w m => h1 x y (ne x y w m) m, ?_⟩
      rcases h2 with ⟨z1, z2, z3⟩ | ⟨⟨x, y, w, m⟩, ⟨x', y', w', m'⟩⟩
      · exact Or.inl ⟨z1, z2, fun x y w m => z3 x y (ne x y w m) m⟩
      · exact Or.inr ⟨⟨x, y, e2 x y w, m⟩, ⟨x', y', e2 x' y' w', m'⟩⟩
theorem Int32_sub5 {p q lo hi : Int32} (a : -9999 ≤ p ∧ p ≤ 9999) (b : -9999 ≤ q ∧ q ≤ 9999) (c : -9999 ≤ lo ∧ lo ≤ 9999) (d : -9999 ≤ hi ∧ hi ≤ 9999) (e : p ≤ hi) (f : lo ≤ q) (g : hi < lo ∨ hi - lo ≤ 5) (r : lo ≤ hi) : p - q ≤ 5 := by grind
theorem MI3_end {S : Nat → Prop} {ln ft gn : Nat → Int32} {k : Nat} {i lo hi : Int32} (hf : ∀ x y, x < k → y < k → -9999 ≤ ft x - ft y ∧ ft x - ft y ≤ 9999) (h : MI3 S ln ft gn k k 0 k i lo hi) : (i = 1 ∧ (hi < lo ∨ hi - lo ≤ 5)) ↔ SPa S ln ft gn k := by
  have e : ∀ x y, Wk k k 0 x y ↔ x < k ∧ y < k := fun x y => by
    unfold Wk
    omega
  obtain ⟨h0, h1, h2⟩ := h
  constructor
  · rintro ⟨i1, c⟩
    rcases h0 with ⟨_, z⟩ | ⟨z, _⟩
    · refine ⟨z.1, fun a b ha hb sa sb l0 => z.2 a b ((e a b).mpr ⟨ha, hb⟩) sa sb l0, fun a b x y ha hb hx hy sa sb sx sy l1 l2 => ?_⟩
      have m1 := h1 a b ((e a b).mpr ⟨ha, hb⟩) ⟨sa, sb, l1⟩
      have m2 := h1 x y ((e x y).mpr ⟨hx, hy⟩) ⟨sx, sy, l2⟩
      rcases h2 with ⟨_, _, z3⟩ | ⟨⟨u, v, w, m, t⟩, ⟨u', v', w', m', t'⟩⟩
      · exact absurd ⟨sa, sb, l1⟩ (z3 a b ((e a b).mpr ⟨ha, hb⟩))
      · refine Int32_sub5 (hf a b ha hb) (hf x y hx hy) ?_ ?_ m1.2 m2.1 c (Int32.le_trans m1.1 m1.2)
        · rw [t]; exact hf u v ((e u v).mp w).1 ((e u v).mp w).2
        · rw [t']; exact hf u' v' ((e u' v').mp w').1 ((e u' v').mp w').2
    · exact absurd (z.symm.trans i1) (by decide)
  · rintro ⟨s1, s2, s3⟩
    refine ⟨?_, ?_⟩
    · rcases h0 with ⟨z, _⟩ | ⟨_, z⟩
      · exact z
      · exact absurd ⟨s1, fun x y w sx sy l0 => s2 x y ((e x y).mp w).1 ((e x y).mp w).2 sx sy l0⟩ z
    · rcases h2 with ⟨z1, z2, _⟩ | ⟨⟨u, v, w, m, t⟩, ⟨u', v', w', m', t'⟩⟩
      · left; rw [z1, z2]; decide
      · right
        rw [t, t']
        exact s3 u' v' u v ((e u' v').mp w').1 ((e u' v').mp w').2 ((e u v).mp w).1 ((e u v).mp w).2 m'.1 m'.2.1 m.1 m.2.1 m'.2.2 m.2.2
theorem st138 {E : ME} {d : Nat} {h0 h : MH} {K : MK} {a b : Nat} {s i lo hi la ap : Int32} (hx : ∀ lo' hi', ((SB s a ∧ SB s b ∧ la = 1) ∧ lo' = mn lo ap ∧ hi' = mx hi ap) ∨ (¬ (SB s a ∧ SB s b ∧ la = 1) ∧ lo' = lo ∧ hi' = hi) → mSem E (d + 1) nX9_isStraight h0 0 0 K 54 [some (.ref 74), some (.int s), some (.int i), some (.int lo'), some (.int hi'), some (.int (nI a)), some (.int (nI (b + 1))), some (.int la), some (.int ap)] [] h) : mSem E (d + 1) nX9_isStraight h0 0 0 K 138 [some (.ref 74), some (.int s), some (.int i), some (.int lo), some (.int hi), some (.int (nI a)), some (.int (nI b)), some (.int la), some (.int ap)] [] h := by
  rw [← nI_1] at hx
  refine mSem_wp MX9_isStraight rfl aX9_isStraight 300 [54] (fun cl ax hcl hax => ?_)
  refine hcl _ _ _ _ (w_has (fun c1 => ?_) (fun c1 => ?_))
  · refine ⟨fun h9 => absurd h9 (by decide), fun _ => ?_⟩
    refine hcl _ _ _ _ (w_has (fun c2 => ?_) (fun c2 => ?_))
    · refine ⟨fun h9 => absurd h9 (by decide), fun _ => ?_⟩
      refine ⟨fun (c3 : ¬ la = 1) => ?_, fun (c3 : la = 1) => ?_⟩
      · exact hax _ _ _ _ (hx lo hi (Or.inr ⟨fun q => c3 q.2.2, rfl, rfl⟩))
      · exact hax _ _ _ _ (hx _ _ (Or.inl ⟨⟨c1, c2, c3⟩, rfl, rfl⟩))
    · refine ⟨fun _ => ?_, fun h9 => absurd h9 (by decide)⟩
      exact hax _ _ _ _ (hx lo hi (Or.inr ⟨fun q => c2 q.2.1, rfl, rfl⟩))
  · refine ⟨fun _ => ?_, fun h9 => absurd h9 (by decide)⟩
    exact hax _ _ _ _ (hx lo hi (Or.inr ⟨fun q => c1 q.1, rfl, rfl⟩))
theorem st54 {E : ME} {d : Nat} {A A0 : Nat → Nat → Int32} {B : Nat → Nat → Int64} {K : MK} {k a : Nat} {s : Int32} (hk : k ≤ 12) (hx : A 75 3 = nI k) (ha : a < k) (hf : ∀ x y, x < k → y < k → -9999 ≤ A 75 (17 + 5 * x) - A 75 (17 + 5 * y) ∧ A 75 (17 + 5 * x) - A 75 (17 + 5 * y) ≤ 9999) (out : ∀ i lo hi o6 o7 o8, MI3 (SB s) (fun x => A 75 (16 + 5 * x)) (fun x => A 75 (17 + 5 * x)) (fun x => A 75 (19 + 5 * x)) k (a + 1) 0 (a + 1) i lo hi → mSem E (d + 2) nX9_isStraight (SH, A0, B) 0 0 K 12 [some (.ref 74), some (.int s), some (.int i), some (.int lo), some (.int hi), some (.int (nI (a + 1))), o6, o7, o8] [] (SH, A, B)) : ∀ (c b : Nat) (i lo hi : Int32) (o7 o8 : Option Value), k - b < c → b ≤ k → MI3 (SB s) (fun x => A 75 (16 + 5 * x)) (fun x => A 75 (17 + 5 * x)) (fun x => A 75 (19 + 5 * x)) k a b (a + 1) i lo hi → mSem E (d + 2) nX9_isStraight (SH, A0, B) 0 0 K 54 [some (.ref 74), some (.int s), some (.int i), some (.int lo), some (.int hi), some (.int (nI a)), some (.int (nI b)), o7, o8] [] (SH, A, B) := by
  intro c
  induction c with
  | zero => intro b i lo hi o7 o8 hc; omega
  | succ c ih =>
    intro b i lo hi o7 o8 hc hb hI
    refine mSem_wp MX9_isStraight rfl aX9_isStraight 300 [12, 138] (fun cl ax hcl hax => ?_)
    refine ⟨vl 3 rfl rfl, ?_⟩
    refine ⟨fun (c0 : A 75 3 ≤ nI b) => ?_, fun (c0 : ¬ A 75 3 ≤ nI b) => ?_⟩
    · rw [hx, nI_leI (by omega) (by omega)] at c0
      have : b = k := by omega
      subst this
      have this := out i lo hi (some (.int (nI b))) o7 o8 (MI3_row hI)
      rw [← nI_1] at this
      exact hax _ _ _ _ this
    · rw [hx, nI_leI (by omega) (by omega)] at c0
      have i01 : i = 0 ∨ i = 1 := hI.1.elim (fun q => Or.inr q.1) (fun q => Or.inl q.1)
      have key : ∀ i', ((i' = 1 ∧ i = 1 ∧ (SB s a → SB s b → A 75 (16 + 5 * a) - A 75 (16 + 5 * b) = 0 → A 75 (17 + 5 * a) - A 75 (17 + 5 * b) ≤ 5)) ∨ (i' = 0 ∧ ¬ (i = 1 ∧ (SB s a → SB s b → A 75 (16 + 5 * a) - A 75 (16 + 5 * b) = 0 → A 75 (17 + 5 * a) - A 75 (17 + 5 * b) ≤ 5)))) → mSem E (d + 2) nX9_isStraight (SH, A0, B) 0 0 K 138 [some (.ref 74), some (.int s), some (.int i'), some (.int lo), some (.int hi), some (.int (nI a)), some (.int (nI b)), some (.int (A 75 (16 + 5 * a) - A 75 (16 + 5 * b))), some (.int (A 75 (17 + 5 * a) - A 75 (17 + 5 * b)))] [] (SH, A, B) := fun i' q => st138 (d := d + 1) (fun lo' hi' p => ih (b + 1) i' lo' hi' _ _ (by omega) (by omega) (MI3_pair (by omega) hf ha hI q p))
      refine hcl _ _ _ _ (w_houseIs (16 + 5 * a) (by omega) (hIx a 1 _ (by omega)) ?_)
      refine hcl _ _ _ _ (w_houseIs (16 + 5 * b) (by omega) (hIx b 1 _ (by omega)) ?_)
      refine hcl _ _ _ _ (w_houseIs (17 + 5 * a) (by omega) (hIx a 2 _ (by omega)) ?_)
      refine hcl _ _ _ _ (w_houseIs (17 + 5 * b) (by omega) (hIx b 2 _ (by omega)) ?_)
      have same : (¬ (SB s a ∧ SB s b ∧ A 75 (16 + 5 * a) - A 75 (16 + 5 * b) = 0)) → ax 138 [some (.ref 74), some (.int s), some (.int i), some (.int lo), some (.int hi), some (.int (nI a)), some (.int (nI b)), some (.int (A 75 (16 + 5 * a) - A 75 (16 + 5 * b))), some (.int (A 75 (17 + 5 * a) - A 75 (17 + 5 * b)))] [] (SH, A, B) := fun q => hax _ _ _ _ (key i (by
        rcases i01 with z | z
        · exact Or.inr ⟨z, fun y => absurd (z.symm.trans y.1) (by decide)⟩
        · exact Or.inl ⟨z, z, fun sa sb l0 => absurd ⟨sa, sb, l0⟩ q⟩))
      refine hcl _ _ _ _ (w_has (fun c1 => ?_) (fun c1 => ?_))
      · refine ⟨fun h9 => absurd h9 (by decide), fun _ => ?_⟩
        refine hcl _ _ _ _ (w_has (fun c2 => ?_) (fun c2 => ?_))
        · refine ⟨fun h9 => absurd h9 (by decide), fun _ => ?_⟩
          refine ⟨fun (c3 : ¬ A 75 (16 + 5 * a) - A 75 (16 + 5 * b) = 0) => same (fun q => c3 q.2.2), fun (c3 : A 75 (16 + 5 * a) - A 75 (16 + 5 * b) = 0) => ?_⟩
          refine ⟨fun (c4 : i = 0) => ?_, fun (c4 : ¬ i = 0) => ?_⟩
          · exact hax _ _ _ _ (key 0 (Or.inr ⟨rfl, fun y => absurd (c4.symm.trans y.1) (by decide)⟩))
          · refine ⟨fun (c5 : 5 < A 75 (17 + 5 * a) - A 75 (17 + 5 * b)) => ?_, fun (c5 : ¬ 5 < A 75 (17 + 5 * a) - A 75 (17 + 5 * b)) => ?_⟩
            · refine hax _ _ _ _ (key 0 (Or.inr ⟨rfl, fun y => ?_⟩))
              have z := y.2 c1 c2 c3
              generalize A 75 (17 + 5 * a) - A 75 (17 + 5 * b) = u at z c5
              clear same key ih out hf hI hcl hax y
              grind
            · refine hax _ _ _ _ (key 1 (Or.inl ⟨rfl, i01.resolve_left c4, fun _ _ _ => ?_⟩))
              generalize A 75 (17 + 5 * a) - A 75 (17 + 5 * b) = u at c5
              clear same key ih out hf hI hcl hax
              grind
        · refine ⟨fun _ => ?_, fun h9 => absurd h9 (by decide)⟩
          exact same (fun q => c2 q.2.1)
      · refine ⟨fun _ => ?_, fun h9 => absurd h9 (by decide)⟩
        exact same (fun q => c1 q.1)
theorem st12 {E : ME} {d : Nat} {A A0 : Nat → Nat → Int32} {B : Nat → Nat → Int64} {K : MK} {k : Nat} {s : Int32} (hk : k ≤ 12) (hx : A 75 3 = nI k) (hg : ∀ x, x < k → A 75 (19 + 5 * x) = 0 ∨ A 75 (19 + 5 * x) = 1) (hf : ∀ x y, x < k → y < k → -9999 ≤ A 75 (17 + 5 * x) - A 75 (17 + 5 * y) ∧ A 75 (17 + 5 * x) - A 75 (17 + 5 * y) ≤ 9999) (k1 : SPa (SB s) (fun x => A 75 (16 + 5 * x)) (fun x => A 75 (17 + 5 * x)) (fun x => A 75 (19 + 5 * x)) k → K (some (.int 1)) (SH, A, B)) (k0 : ¬ SPa (SB s) (fun x => A 75 (16 + 5 * x)) (fun x => A 75 (17 + 5 * x)) (fun x => A 75 (19 + 5 * x)) k → K (some (.int 0)) (SH, A, B)) : ∀ (c a : Nat) (i lo hi : Int32) (o6 o7 o8 : Option Value), k - a < c → a ≤ k → MI3 (SB s) (fun x => A 75 (16 + 5 * x)) (fun x => A 75 (17 + 5 * x)) (fun x => A 75 (19 + 5 * x)) k a 0 a i lo hi → mSem E (d + 2) nX9_isStraight (SH, A0, B) 0 0 K 12 [some (.ref 74), some (.int s), some (.int i), some (.int lo), some (.int hi), some (.int (nI a)), o6, o7, o8] [] (SH, A, B) := by
  intro c
  induction c with
  | zero => intro a i lo hi o6 o7 o8 hc; omega
  | succ c ih =>
    intro a i lo hi o6 o7 o8 hc ha hI
    refine mSem_wp MX9_isStraight rfl aX9_isStraight 300 [54] (fun cl ax hcl hax => ?_)
    have i01 : i = 0 ∨ i = 1 := hI.1.elim (fun q => Or.inr q.1) (fun q => Or.inl q.1)
    refine ⟨vl 3 rfl rfl, ?_⟩
    refine ⟨fun (c0 : A 75 3 ≤ nI a) => ?_, fun (c0 : ¬ A 75 3 ≤ nI a) => ?_⟩
    · rw [hx, nI_leI (by omega) (by omega)] at c0
      have : a = k := by omega
      subst this
      have e := MI3_end hf hI
      refine ⟨fun (c1 : i = 0) => ⟨rfl, k0 (fun q => ?_)⟩, fun (c1 : ¬ i = 0) => ?_⟩
      · exact absurd (c1.symm.trans (e.mpr q).1) (by decide)
      · have i1 := i01.resolve_left c1
        refine ⟨fun (c2 : hi < lo) => ⟨rfl, k1 (e.mp ⟨i1, Or.inl c2⟩)⟩, fun (c2 : ¬ hi < lo) => ?_⟩
        refine ⟨fun (c3 : 5 < hi - lo) => ⟨rfl, k0 (fun q => ?_)⟩, fun (c3 : ¬ 5 < hi - lo) => ⟨rfl, k1 (e.mp ⟨i1, Or.inr ?_⟩)⟩⟩
        · have z := (e.mpr q).2
          clear hcl hax ih k0 k1 e hI hf hg q
          grind
        · clear hcl hax ih k0 k1 e hI hf hg
          grind
    · rw [hx, nI_leI (by omega) (by omega)] at c0
      have key : ∀ i', ((i' = 1 ∧ i = 1 ∧ (SB s a → A 75 (19 + 5 * a) = 0)) ∨ (i' = 0 ∧ ¬ (i = 1 ∧ (SB s a → A 75 (19 + 5 * a) = 0)))) → mSem E (d + 2) nX9_isStraight (SH, A0, B) 0 0 K 54 [some (.ref 74), some (.int s), some (.int i'), some (.int lo), some (.int hi), some (.int (nI a)), some (.int (nI 0)), o7, o8] [] (SH, A, B) := fun i' q => st54 hk hx (by omega) hf (fun i lo hi o6 o7 o8 z => ih (a + 1) i lo hi o6 o7 o8 (by omega) (by omega) z) (k + 1) 0 i' lo hi o7 o8 (by omega) (by omega) (MI3_gone hI q)
      refine ⟨fun (c1 : i = 0) => ?_, fun (c1 : ¬ i = 0) => ?_⟩
      · exact hax _ _ _ _ (key 0 (Or.inr ⟨rfl, fun y => absurd (c1.symm.trans y.1) (by decide)⟩))
      · have i1 := i01.resolve_left c1
        refine hcl _ _ _ _ (w_has (fun c2 => ?_) (fun c2 => ?_))
        · refine ⟨fun h9 => absurd h9 (by decide), fun _ => ?_⟩
          refine hcl _ _ _ _ (w_isGone a (by omega) (fun c3 => ?_) (fun c3 => ?_))
          · refine ⟨fun _ => ?_, fun h9 => absurd h9 (by decide)⟩
            exact hax _ _ _ _ (key 0 (Or.inr ⟨rfl, fun y => absurd ((y.2 c2).symm.trans c3) (by decide)⟩))
          · refine ⟨fun h9 => absurd h9 (by decide), fun _ => ?_⟩
            exact hax _ _ _ _ (key 1 (Or.inl ⟨rfl, i1, fun _ => (hg a (by omega)).resolve_right c3⟩))
        · refine ⟨fun _ => ?_, fun h9 => absurd h9 (by decide)⟩
          exact hax _ _ _ _ (key 1 (Or.inl ⟨rfl, i1, fun q => absurd q c2⟩))
theorem w_isStraight {E : ME} {d : Nat} {A : Nat → Nat → Int32} {B : Nat → Nat → Int64} {K : MK} {k : Nat} {s : Int32} (hk : k ≤ 12) (hx : A 75 3 = nI k) (hg : ∀ x, x < k → A 75 (19 + 5 * x) = 0 ∨ A 75 (19 + 5 * x) = 1) (hf : ∀ x, x < k → 0 ≤ A 75 (17 + 5 * x) ∧ A 75 (17 + 5 * x) ≤ 9999) (k1 : SPa (SB s) (fun x => A 75 (16 + 5 * x)) (fun x => A 75 (17 + 5 * x)) (fun x => A 75 (19 + 5 * x)) k → K (some (.int 1)) (SH, A, B)) (k0 : ¬ SPa (SB s) (fun x => A 75 (16 + 5 * x)) (fun x => A 75 (17 + 5 * x)) (fun x => A 75 (19 + 5 * x)) k → K (some (.int 0)) (SH, A, B)) : mCall E (d + 2) nX9_isStraight [.ref 74, .int s] (SH, A, B) K := by
  have hf2 : ∀ x y, x < k → y < k → -9999 ≤ A 75 (17 + 5 * x) - A 75 (17 + 5 * y) ∧ A 75 (17 + 5 * x) - A 75 (17 + 5 * y) ≤ 9999 := fun x y hx hy => by
    have a := hf x hx
    have b := hf y hy
    generalize A 75 (17 + 5 * x) = u at a ⊢
    generalize A 75 (17 + 5 * y) = v at b ⊢
    clear hf k0 k1 hg
    grind
  refine mCall_sem MX9_isStraight rfl rfl (Or.inl ⟨rfl, rfl, rfl⟩) rfl (mSem_wp MX9_isStraight rfl aX9_isStraight 300 [12] (fun cl ax hcl hax => ?_))
  exact hax _ _ _ _ (st12 (d := d) hk hx hg hf2 k1 k0 (k + 1) 0 1 2147483647 (-2147483648) none none none (by omega) (by omega) MI3_0)
