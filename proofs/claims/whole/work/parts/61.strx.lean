/-! THE STREET OF X -/
def nb3 (A : Nat → Nat → Int32) (T : (Nat → Int32) × (Nat → Int32) × (Nat → Int32)) : Nat → Nat → Int32 := va_up (va_up (va_up A 42 T.1) 43 T.2.1) 44 T.2.2
theorem nb3_up {A : Nat → Nat → Int32} {T : (Nat → Int32) × (Nat → Int32) × (Nat → Int32)} {F G H : Nat → Int32} : va_up (va_up (va_up (nb3 A T) 42 F) 43 G) 44 H = nb3 A (F, G, H) := by
  funext q
  unfold nb3 va_up
  by_cases h1 : q = 44
  · simp [h1]
  by_cases h2 : q = 43
  · simp [h2]
  by_cases h3 : q = 42
  · simp [h3]
  simp [h1, h2, h3]
theorem nb3_self (A : Nat → Nat → Int32) {T3 : Nat → Int32} : nb3 A (A 42, A 43, T3) = va_up A 44 T3 := by
  funext q
  unfold nb3 va_up
  by_cases h1 : q = 44
  · simp [h1]
  by_cases h2 : q = 43
  · simp [h2]
  by_cases h3 : q = 42
  · simp [h3]
  simp [h1, h2, h3]
theorem lp_clear {E : ME} {d : Nat} {A A0 : Nat → Nat → Int32} {B : Nat → Nat → Int64} {K : MK} (hK : ∀ T, (∀ l, l < 9 → T l = 0) → K none (SH, va_up A 44 T, B)) : ∀ v : Nat × (Nat → Int32), (v.1 ≤ 9 ∧ ∀ l, l < v.1 → v.2 l = 0) → mSem E d nX5_clear (SH, A0, B) 0 0 K 2 [some (.ref 41), some (.int (nI v.1))] [] (SH, va_up A 44 v.2, B) := by
  refine mSem_loop (σ := Nat × (Nat → Int32)) (h0 := (SH, A0, B)) MX5_clear rfl aX5_clear 300 [2] (fun v => [some (.ref 41), some (.int (nI v.1))]) (fun v => (SH, va_up A 44 v.2, B)) (fun v => v.1 ≤ 9 ∧ ∀ l, l < v.1 → v.2 l = 0) (fun v => 9 - v.1) ?_
  rintro ⟨j, T⟩ ⟨hj, hT⟩ cl ax hcl hax hlp
  have hj : j ≤ 9 := hj
  have hT : ∀ l, l < j → T l = 0 := hT
  have e8 : (nI j).toNatClampNeg = j := nI_clamp (by omega)
  refine ⟨fun (c0 : nI 9 ≤ nI j) => ?_, fun (c0 : ¬ nI 9 ≤ nI j) => ?_⟩
  · rw [nI_leI (by omega) (by omega)] at c0
    have : j = 9 := by omega
    subst this
    exact hK T hT
  · rw [nI_leI (by omega) (by omega)] at c0
    refine ⟨vp_in_nI (N := 9) (by omega) (by decide), ?_⟩
    have this : ax 2 [some (.ref 41), some (.int (nI j + 1))] [] (SH, va_up A 44 (upd T (nI j).toNatClampNeg 0), B) := by
      rw [nI_1]
      refine hlp (j + 1, _) ⟨by show j + 1 ≤ 9; omega, fun q hq => ?_⟩ (by show 9 - (j + 1) < 9 - j; omega)
      have hq : q < j + 1 := hq
      show upd T _ _ q = 0
      rw [e8]
      by_cases e : q = j
      · subst e; rw [ud_s]
      · rw [ud_n e]; exact hT q (by omega)
    rw [← up_up (F := T)] at this
    exact this
theorem w_clear {E : ME} {d : Nat} {A : Nat → Nat → Int32} {B : Nat → Nat → Int64} {K : MK} (hK : ∀ T, (∀ l, l < 9 → T l = 0) → K none (SH, va_up A 44 T, B)) : mCall E d nX5_clear [.ref 41] (SH, A, B) K := by
  refine mCall_sem MX5_clear rfl rfl (Or.inl ⟨rfl, rfl, rfl⟩) rfl (mSem_wp MX5_clear rfl aX5_clear 300 [2] (fun cl ax hcl hax => ?_))
  have e : va_up A 44 (A 44) = A := by
    funext q
    unfold va_up
    split
    · rename_i c; rw [c]
    · rfl
  have this := lp_clear (E := E) (d := d) (A := A) (A0 := A) (B := B) (K := K) hK (0, A 44) ⟨by omega, fun q hq => absurd hq (by simp)⟩
  rw [e] at this
  exact hax _ _ _ _ this
def ad1 (T : (Nat → Int32) × (Nat → Int32) × (Nat → Int32)) (l : Nat) (f : Int32) : (Nat → Int32) × (Nat → Int32) × (Nat → Int32) := (upd T.1 l (if T.2.2 l = 0 then f else mn (T.1 l) f), upd T.2.1 l (if T.2.2 l = 0 then f else mx (T.2.1 l) f), upd T.2.2 l 1)
theorem w_add {E : ME} {d : Nat} {A : Nat → Nat → Int32} {B : Nat → Nat → Int64} {K : MK} {ln f : Int32} {T : (Nat → Int32) × (Nat → Int32) × (Nat → Int32)} (l : Nat) (hl : l < 9) (el : ln = nI l) (hK : K none (SH, nb3 A (ad1 T l f), B)) : mCall E (d + 1) nX5_add [.ref 41, .int ln, .int f] (SH, nb3 A T, B) K := by
  subst el
  have hv : vp_in (nI l) 9 := vp_in_nI hl (by decide)
  have e8 : l = (nI l).toNatClampNeg := (nI_clamp (by omega)).symm
  obtain ⟨T1, T2, T3⟩ := T
  unfold ad1 at hK
  rw [← nb3_up (T := (T1, T2, T3))] at hK
  by_cases c : T3 l = 0
  · rw [if_pos c, if_pos c] at hK
    rw [e8] at c hK
    refine mCall_sem MX5_add rfl rfl (Or.inl ⟨rfl, rfl, rfl⟩) rfl (mSem_wp MX5_add rfl aX5_add 300 [] (fun cl ax hcl hax => ?_))
    refine ⟨hv, ?_⟩
    refine ⟨fun _ => ?_, fun c1 => absurd c c1⟩
    refine ⟨hv, ?_⟩
    refine ⟨hv, ?_⟩
    refine ⟨fun _ => ?_, fun c1 => absurd c c1⟩
    refine ⟨hv, ?_⟩
    refine ⟨hv, ?_⟩
    exact hK
  · rw [if_neg c, if_neg c] at hK
    rw [e8] at c hK
    refine mCall_sem MX5_add rfl rfl (Or.inl ⟨rfl, rfl, rfl⟩) rfl (mSem_wp MX5_add rfl aX5_add 300 [] (fun cl ax hcl hax => ?_))
    refine ⟨hv, ?_⟩
    refine ⟨fun c1 => absurd c1 c, fun _ => ?_⟩
    refine ⟨hv, ?_⟩
    refine ⟨hv, ?_⟩
    refine ⟨hv, ?_⟩
    refine ⟨fun c1 => absurd c1 c, fun _ => ?_⟩
    refine ⟨hv, ?_⟩
    refine ⟨hv, ?_⟩
    refine ⟨hv, ?_⟩
    exact hK
def IS (S : Nat → Prop) (ln ft : Nat → Int32) (j : Nat) (T : (Nat → Int32) × (Nat → Int32) × (Nat → Int32)) : Prop := ∀ l, l < 9 → ((T.2.2 l = 0 ∧ ∀ a, a < j → S a → ¬ ln a = nI l) ∨ (T.2.2 l = 1 ∧ (∀ a, a < j → S a → ln a = nI l → T.1 l ≤ ft a ∧ ft a ≤ T.2.1 l) ∧ (∃ a, a < j ∧ S a ∧ ln a = nI l ∧ ft a = T.1 l) ∧ ∃ a, a < j ∧ S a ∧ ln a = nI l ∧ ft a = T.2.1 l))
theorem IS_0 {S : Nat → Prop} {ln ft : Nat → Int32} {T : (Nat → Int32) × (Nat → Int32) × (Nat → Int32)} (h : ∀ l, l < 9 → T.2.2 l = 0) : IS S ln ft 0 T := fun l hl => Or.inl ⟨h l hl, fun a ha => absurd ha (by omega)⟩
theorem IS_skip {S : Nat → Prop} {ln ft : Nat → Int32} {j : Nat} {T : (Nat → Int32) × (Nat → Int32) × (Nat → Int32)} (h : IS S ln ft j T) (hj : ¬ S j) : IS S ln ft (j + 1) T := fun l hl => by
  have hne : ∀ a, a < j + 1 → S a → a < j := fun a ha sa => by
    rcases Nat.lt_or_ge a j with q | q
    · exact q
    · exact absurd (show S j by rw [show j = a by omega]; exact sa) hj
  rcases h l hl with ⟨q1, q2⟩ | ⟨q1, q2, ⟨a, a1, a2⟩, ⟨b, b1, b2⟩⟩
  · exact Or.inl ⟨q1, fun a ha sa => q2 a (hne a ha sa) sa⟩
  · exact Or.inr ⟨q1, fun a ha sa => q2 a (hne a ha sa) sa, ⟨a, by omega, a2⟩, ⟨b, by omega, b2⟩⟩
theorem IS_add {S : Nat → Prop} {ln ft : Nat → Int32} {j l : Nat} {T : (Nat → Int32) × (Nat → Int32) × (Nat → Int32)} (h : IS S ln ft j T) (hj : S j) (hl9 : l < 9) (el : ln j = nI l) : IS S ln ft (j + 1) (ad1 T l (ft j)) := fun m hm => by
  obtain ⟨T1, T2, T3⟩ := T
  by_cases e : m = l
  · subst e
    refine Or.inr ⟨?_, ?_⟩
    · show upd T3 m 1 m = 1
      rw [ud_s]
    · show (∀ a, a < j + 1 → S a → ln a = nI m → upd T1 m (if T3 m = 0 then ft j else mn (T1 m) (ft j)) m ≤ ft a ∧ ft a ≤ upd T2 m (if T3 m = 0 then ft j else mx (T2 m) (ft j)) m) ∧ (∃ a, a < j + 1 ∧ S a ∧ ln a = nI m ∧ ft a = upd T1 m (if T3 m = 0 then ft j else mn (T1 m) (ft j)) m) ∧ ∃ a, a < j + 1 ∧ S a ∧ ln a = nI m ∧ ft a = upd T2 m (if T3 m = 0 then ft j else mx (T2 m) (ft j)) m
      rw [ud_s, ud_s]
      rcases h m hm with ⟨q1, q2⟩ | ⟨q1, q2, ⟨a, a1, a2, a3, a4⟩, ⟨b, b1, b2, b3, b4⟩⟩
      · have q1 : T3 m = 0 := q1
        rw [if_pos q1, if_pos q1]
        refine ⟨fun a ha sa la => ?_, ⟨j, by omega, hj, el, rfl⟩, ⟨j, by omega, hj, el, rfl⟩⟩
        rcases Nat.lt_or_ge a j with q | q
        · exact absurd la (q2 a q sa)
        · rw [show a = j by omega]
          exact ⟨by grind, by grind⟩
      · have q1 : T3 m = 1 := q1
        have q2 : ∀ a, a < j → S a → ln a = nI m → T1 m ≤ ft a ∧ ft a ≤ T2 m := q2
        have a4 : ft a = T1 m := a4
        have b4 : ft b = T2 m := b4
        have q0 : ¬ T3 m = 0 := by rw [q1]; decide
        rw [if_neg q0, if_neg q0]
        refine ⟨fun c hc sc lc => ?_, ?_, ?_⟩
        · rcases Nat.lt_or_ge c j with q | q
          · have := q2 c q sc lc
            unfold mn mx
            clear h q2
            grind
          · rw [show c = j by omega]
            unfold mn mx
            clear h q2
            grind
        · unfold mn
          split
          · exact ⟨j, by omega, hj, el, rfl⟩
          · exact ⟨a, by omega, a2, a3, a4⟩
        · unfold mx
          split
          · exact ⟨j, by omega, hj, el, rfl⟩
          · exact ⟨b, by omega, b2, b3, b4⟩
  · have ne : ∀ a, a < j + 1 → ln a = nI m → a < j := fun a ha la => by
      rcases Nat.lt_or_ge a j with q | q
      · exact q
      · exfalso
        rw [show a = j by omega, el] at la
        exact e ((nI_eq (by omega) (by omega)).mp la).symm
    show ((upd T3 l 1 m = 0 ∧ ∀ a, a < j + 1 → S a → ¬ ln a = nI m) ∨ (upd T3 l 1 m = 1 ∧ (∀ a, a < j + 1 → S a → ln a = nI m → upd T1 l (if T3 l = 0 then ft j else mn (T1 l) (ft j)) m ≤ ft a ∧ ft a ≤ upd T2 l (if T3 l = 0 then ft j else mx (T2 l) (ft j)) m) ∧ (∃ a, a < j + 1 ∧ S a ∧ ln a = nI m ∧ ft a = upd T1 l (if T3 l = 0 then ft j else mn (T1 l) (ft j)) m) ∧ ∃ a, a < j + 1 ∧ S a ∧ ln a = nI m ∧ ft a = upd T2 l (if T3 l = 0 then ft j else mx (T2 l) (ft j)) m))
    rw [ud_n e, ud_n e, ud_n e]
    rcases h m hm with ⟨q1, q2⟩ | ⟨q1, q2, ⟨a, a1, a2⟩, ⟨b, b1, b2⟩⟩
    · exact Or.inl ⟨q1, fun a ha sa la => q2 a (ne a ha la) sa la⟩
    · exact Or.inr ⟨q1, fun a ha sa la => q2 a (ne a ha la) sa la, ⟨a, by omega, a2⟩, ⟨b, by omega, b2⟩⟩
def ADJ (T3 : Nat → Int32) (m : Nat) : Prop := T3 (m + 1) = 1 ∧ T3 m = 1
def LSt (T : (Nat → Int32) × (Nat → Int32) × (Nat → Int32)) : Prop := (∀ l, l < 9 → T.2.2 l = 1 → T.2.1 l - T.1 l ≤ 5) ∧ ∀ m n, m + 1 < 9 → n + 1 < 9 → ADJ T.2.2 m → ADJ T.2.2 n → (T.2.1 (m + 1) - T.1 m) - (T.1 (n + 1) - T.2.1 n) ≤ 5
def TB (T : (Nat → Int32) × (Nat → Int32) × (Nat → Int32)) : Prop := ∀ l, l < 9 → (T.2.2 l = 0 ∨ T.2.2 l = 1) ∧ (T.2.2 l = 1 → (0 ≤ T.1 l ∧ T.1 l ≤ 9998) ∧ (0 ≤ T.2.1 l ∧ T.2.1 l ≤ 9998))
theorem IS_TB {S : Nat → Prop} {ln ft : Nat → Int32} {k : Nat} {T : (Nat → Int32) × (Nat → Int32) × (Nat → Int32)} (h : IS S ln ft k T) (hf : ∀ a, a < k → S a → 0 ≤ ft a ∧ ft a ≤ 9998) : TB T := fun l hl => by
  rcases h l hl with ⟨q1, q2⟩ | ⟨q1, q2, ⟨a, a1, a2, a3, a4⟩, ⟨b, b1, b2, b3, b4⟩⟩
  · exact ⟨Or.inl q1, fun q => absurd (q1.symm.trans q) (by decide)⟩
  · exact ⟨Or.inr q1, fun _ => ⟨by rw [← a4]; exact hf a a1 a2, by rw [← b4]; exact hf b b1 b2⟩⟩
theorem LS_SP {S : Nat → Prop} {ln ft gn : Nat → Int32} {k : Nat} {T : (Nat → Int32) × (Nat → Int32) × (Nat → Int32)} (h : IS S ln ft k T) (hg : ∀ a, a < k → S a → gn a = 0) (hl : ∀ a, a < k → S a → 0 ≤ ln a ∧ ln a ≤ 8) (hf : ∀ a, a < k → S a → 0 ≤ ft a ∧ ft a ≤ 9998) : LSt T ↔ SPa S ln ft gn k := by
  have tb := IS_TB h hf
  have lane : ∀ a, a < k → S a → ∃ l, l < 9 ∧ ln a = nI l ∧ T.2.2 l = 1 ∧ T.1 l ≤ ft a ∧ ft a ≤ T.2.1 l := fun a ha sa => by
    obtain ⟨l, hl9, el⟩ := ix_le 8 (hl a ha sa).1 (hl a ha sa).2 rfl
    rcases h l (by omega) with ⟨q1, q2⟩ | ⟨q1, q2, _⟩
    · exact absurd el (q2 a ha sa)
    · exact ⟨l, by omega, el, q1, q2 a ha sa el⟩
  constructor
  · rintro ⟨s1, s2⟩
    refine ⟨hg, fun a b ha hb sa sb e => ?_, fun a b c d ha hb hc hd sa sb sc sd e1 e2 => ?_⟩
    · obtain ⟨l, l9, el, t3, x1, x2⟩ := lane a ha sa
      obtain ⟨m, m9, em, t3', y1, y2⟩ := lane b hb sb
      have : l = m := (nI_eq (by omega) (by omega)).mp (by rw [← el, ← em]; clear tb lane s2 s1 hf hl hg h; grind)
      subst this
      have z := s1 l l9 t3
      have fa := hf a ha sa
      have fb := hf b hb sb
      have tl := (tb l l9).2 t3
      clear tb lane s2 s1 hf hl hg h
      grind
    · obtain ⟨l1, l19, el1, t31, x1, x2⟩ := lane a ha sa
      obtain ⟨l2, l29, el2, t32, y1, y2⟩ := lane b hb sb
      obtain ⟨l3, l39, el3, t33, z1, z2⟩ := lane c hc sc
      obtain ⟨l4, l49, el4, t34, w1, w2⟩ := lane d hd sd
      have q1 : l1 = l2 + 1 := (nI_eq (by omega) (by omega)).mp (by rw [← nI_1, ← el1, ← el2]; clear tb lane s2 s1 hf hl hg h; grind)
      have q2 : l3 = l4 + 1 := (nI_eq (by omega) (by omega)).mp (by rw [← nI_1, ← el3, ← el4]; clear tb lane s2 s1 hf hl hg h; grind)
      subst q1
      subst q2
      have z := s2 l2 l4 l19 l39 ⟨t31, t32⟩ ⟨t33, t34⟩
      have fa := hf a ha sa
      have fb := hf b hb sb
      have fc := hf c hc sc
      have fd := hf d hd sd
      have u1 := (tb _ l19).2 t31
      have u2 := (tb _ l29).2 t32
      have u3 := (tb _ l39).2 t33
      have u4 := (tb _ l49).2 t34
      clear tb lane s2 s1 hf hl hg h
      grind
  · rintro ⟨_, s2, s3⟩
    have at' : ∀ l, l < 9 → T.2.2 l = 1 → (∃ a, a < k ∧ S a ∧ ln a = nI l ∧ ft a = T.1 l) ∧ ∃ a, a < k ∧ S a ∧ ln a = nI l ∧ ft a = T.2.1 l := fun l l9 t3 => by
      rcases h l l9 with ⟨q1, _⟩ | ⟨_, _, q3, q4⟩
      · exact absurd (q1.symm.trans t3) (by decide)
      · exact ⟨q3, q4⟩
    refine ⟨fun l l9 t3 => ?_, fun m n hm hn am an => ?_⟩
    · obtain ⟨⟨b, b1, b2, b3, b4⟩, ⟨a, a1, a2, a3, a4⟩⟩ := at' l l9 t3
      rw [← a4, ← b4]
      exact s2 a b a1 b1 a2 b2 (by rw [a3, b3]; grind)
    · obtain ⟨_, ⟨a, a1, a2, a3, a4⟩⟩ := at' (m + 1) hm am.1
      obtain ⟨⟨b, b1, b2, b3, b4⟩, _⟩ := at' m (by omega) am.2
      obtain ⟨⟨c, c1, c2, c3, c4⟩, _⟩ := at' (n + 1) hn an.1
      obtain ⟨_, ⟨d, d1, d2, d3, d4⟩⟩ := at' n (by omega) an.2
      rw [← a4, ← b4, ← c4, ← d4]
      exact s3 a b c d a1 b1 c1 d1 a2 b2 c2 d2 (by rw [a3, b3, ← nI_1]; grind) (by rw [c3, d3, ← nI_1]; grind)
