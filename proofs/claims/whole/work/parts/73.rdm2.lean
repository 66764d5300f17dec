/-! the model reads seasons -/
theorem lp_rw {E : ME} {d : Nat} {A A0 : Nat → Nat → Int32} {B : Nat → Nat → Int64} {K : MK} {c : Nat → Int32} {k n : Nat} (hk : k ≤ 120) (hc : ∀ j, j < k → A 79 j = c j) (hp : ∀ j, j < k → 0 ≤ c j) (hn : n < 120) (h14 : A 74 14 = nI n) (r : (Nat × Bool) × Int32) (hK : ∀ F I, MT c k F r.1 → (∀ q, q < 7 ∨ 14 < q → F q = A 74 q) → F 14 = nI (n + 1) → I = it5 (A 81) n (12, r.2, 0, 0, 0) → K none (SH, va_up (va_up A 81 I) 74 F, B)) : ∀ (f : Nat) (s : Nat × Bool) (l z : Int32) (F : Nat → Int32), (s.2 = true ∨ ∃ l', l = nI l' ∧ l' ≤ 6 ∧ 7 ≤ l' + f) → wmL c k f s l z = r → MT c k F s → RS (A 74) F → mSem E (d + 4) nX9_readWarm (SH, A0, B) 0 0 K 28 [some (.ref 74), some (.int l), some (.int z)] [] (SH, va_up A 74 F, B) := by
  have ex : ∀ (s : Nat × Bool) (z : Int32) (F : Nat → Int32), (s, z) = r → MT c k F s → RS (A 74) F → K none (SH, va_up (va_up (va_up A 74 F) 81 (it5 (A 81) n (12, z, 0, 0, 0))) 74 (upd F 14 (nI (n + 1))), B) := fun s z F e f1 f2 => by
    subst e
    rw [up_d (by decide)]
    exact hK _ _ f1 (fun q hq => by rw [ud_n (by omega)]; exact f2 q (by omega)) rfl rfl
  intro f
  induction f with
  | zero =>
    intro s l z F hl e f1 f2
    have hw : s.2 = true := hl.elim id (fun ⟨l', a, b, c⟩ => by omega)
    have h11 : F 11 = 1 := by rw [f1.2.2.2.2.2.1, hw]; rfl
    refine mSem_wp MX9_readWarm rfl aX9_readWarm 300 [] (fun cl ax hcl hax => ?_)
    refine ⟨fun _ => ?_, fun (q : F 11 = 0) => absurd (q.symm.trans h11) (by decide)⟩
    exact hcl _ _ _ _ (w_item (A := va_up A 74 F) hn ((f2 14 (by omega)).trans h14) (ex s z F e f1 f2))
  | succ f ih =>
    intro s l z F hl e f1 f2
    have h11 := f1.2.2.2.2.2.1
    have h9 := f1.2.2.2.1
    have hb := tk_b c f1.2.2.2.2.2.2
    rw [wmL] at e
    refine mSem_wp MX9_readWarm rfl aX9_readWarm 300 [28] (fun cl ax hcl hax => ?_)
    cases hw : s.2 with
    | true =>
      rw [hw] at h11 e
      refine ⟨fun _ => ?_, fun (q : F 11 = 0) => absurd (q.symm.trans h11) (by decide)⟩
      exact hcl _ _ _ _ (w_item (A := va_up A 74 F) hn ((f2 14 (by omega)).trans h14) (ex s z F e f1 f2))
    | false =>
      rw [hw] at h11 e
      refine ⟨fun (q : ¬ F 11 = 0) => absurd h11 q, fun _ => ?_⟩
      refine ⟨fun (q : ¬ F 9 = nI 2) => ?_, fun (q : F 9 = nI 2) => ?_⟩
      · rw [h9, nI_eq (by omega) (by omega)] at q
        rw [decide_eq_false q] at e
        exact hcl _ _ _ _ (w_item (A := va_up A 74 F) hn ((f2 14 (by omega)).trans h14) (ex s z F e f1 f2))
      · rw [h9, nI_eq (by omega) (by omega)] at q
        rw [decide_eq_true q] at e
        have e : wmL c k f (nS c k s (l + 1) 6) (tv c k s.1) (z ||| (match (nS c k s (l + 1) 6).2 with
          | true => 0
          | false => (1 : Int32) <<< (tv c k s.1 &&& 31))) = r := e
        refine hcl _ _ _ _ (w_number (A := va_up A 74 F) hk hc hp f1 (fun F2 g1 g2 => ?_))
        rw [up_up]
        have h11' := g1.2.2.2.2.2.1
        cases hw2 : (nS c k s (l + 1) 6).2 with
        | true =>
          rw [hw2] at h11' e
          refine ⟨fun (q : F2 11 = 0) => absurd (q.symm.trans h11') (by decide), fun _ => ?_⟩
          exact hax _ _ _ _ (ih _ _ _ F2 (Or.inl hw2) e g1 (RS_t f2 g2))
        | false =>
          rw [hw2] at h11' e
          refine ⟨fun _ => ?_, fun (q : ¬ F2 11 = 0) => absurd h11' q⟩
          refine hax _ _ _ _ (ih _ _ _ F2 (Or.inr ?_) e g1 (RS_t f2 g2))
          have hg : nG c k s.1 (l + 1) 6 = true := by
            cases y : nG c k s.1 (l + 1) 6 with
            | true => rfl
            | false =>
              obtain ⟨e', w'⟩ := s
              cases hw
              rw [nS_f y] at hw2
              cases hw2
          obtain ⟨_, y1, y2⟩ := nG_t.mp hg
          rcases hl with y | ⟨l', rfl, b, d'⟩
          · exact absurd (y.symm.trans hw) (by decide)
          · rw [nI_1] at y1
            have y0 : 0 ≤ nI (l' + 1) := nI_pos' (by omega)
            obtain ⟨v, hv, ev⟩ := ix_le 6 (show 0 ≤ tv c k s.1 from Int32.le_trans y0 y1) y2 rfl
            rw [ev, nI_leI (by omega) (by omega)] at y1
            exact ⟨v, ev, hv, by omega⟩
theorem w_X9_readWarm {E : ME} {d : Nat} {A : Nat → Nat → Int32} {B : Nat → Nat → Int64} {K : MK} {c : Nat → Int32} {k e n : Nat} (hk : k ≤ 120) (hc : ∀ j, j < k → A 79 j = c j) (hp : ∀ j, j < k → 0 ≤ c j) (hn : n < 120) (hT : MT c k (A 74) (e, false)) (h14 : A 74 14 = nI n) (hK : ∀ F I, MT c k F (warmS c k e).1 → (∀ q, q < 7 ∨ 14 < q → F q = A 74 q) → F 14 = nI (n + 1) → I = it5 (A 81) n (warmS c k e).2 → K none (SH, va_up (va_up A 81 I) 74 F, B)) : mCall E (d + 4) nX9_readWarm [.ref 74] (SH, A, B) K := by
  refine mCall_sem MX9_readWarm rfl rfl (Or.inl ⟨rfl, rfl, rfl⟩) rfl (mSem_wp MX9_readWarm rfl aX9_readWarm 300 [28] (fun cl ax hcl hax => ?_))
  refine hcl _ _ _ _ (w_must (s := (e, false)) true rfl hk hc hp hT (fun F f1 f2 => ?_))
  refine hcl _ _ _ _ (w_number (A := va_up A 74 F) hk hc hp f1 (fun F2 g1 g2 => ?_))
  rw [up_up]
  have g1 : MT c k F2 (wm2 c k e) := g1
  have h11 := g1.2.2.2.2.2.1
  have key : ∀ z, z = wmz c k e → mSem E (d + 4) nX9_readWarm (SH, A, B) 0 0 K 28 [some (.ref 74), some (.int (tv c k (wm1 c k e).1)), some (.int z)] [] (SH, va_up A 74 F2, B) := fun z hz => by
    subst hz
    refine lp_rw hk hc hp hn h14 _ hK 9 (wm2 c k e) _ _ F2 ?_ rfl g1 (RS_t f2 g2)
    cases hw : (wm2 c k e).2 with
    | true => exact Or.inl rfl
    | false =>
      right
      have hg : nG c k (wm1 c k e).1 0 6 = true := by
        cases y : nG c k (wm1 c k e).1 0 6 with
        | true => rfl
        | false =>
          have : wm2 c k e = ((wm1 c k e).1, true) := nS_f y
          rw [this] at hw
          cases hw
      obtain ⟨_, y1, y2⟩ := nG_t.mp hg
      obtain ⟨v, hv, ev⟩ := ix_le 6 y1 y2 rfl
      exact ⟨v, ev, hv, by omega⟩
  cases hw : (wm2 c k e).2 with
  | true =>
    rw [hw] at h11
    refine ⟨fun (q : F2 11 = 0) => absurd (q.symm.trans h11) (by decide), fun _ => ?_⟩
    exact hax _ _ _ _ (key 0 (by unfold wmz; rw [hw]))
  | false =>
    rw [hw] at h11
    refine ⟨fun _ => ?_, fun (q : ¬ F2 11 = 0) => absurd h11 q⟩
    exact hax _ _ _ _ (key _ (by unfold wmz; rw [hw]; rfl))
