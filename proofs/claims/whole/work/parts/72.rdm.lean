/-! THE MODEL READS: items, houses, seasons -/
def it5 (I : Nat → Int32) (n : Nat) (it : Int32 × Int32 × Int32 × Int32 × Int32) : Nat → Int32 := upd (upd (upd (upd (upd I (5 * n) it.1) (5 * n + 1) it.2.1) (5 * n + 2) it.2.2.1) (5 * n + 3) it.2.2.2.1) (5 * n + 4) it.2.2.2.2
theorem up_d {α : Type} {A : Nat → α} {a b : Nat} {F F' G : α} (h : a ≠ b) : va_up (va_up (va_up A a F) b G) a F' = va_up (va_up A b G) a F' := by
  funext q
  unfold va_up
  by_cases c : q = a
  · simp [c]
  · simp [c]
theorem w_item {E : ME} {d : Nat} {A : Nat → Nat → Int32} {B : Nat → Nat → Int64} {K : MK} {n : Nat} {w a b x y : Int32} (hn : n < 120) (h14 : A 74 14 = nI n) (hK : K none (SH, va_up (va_up A 81 (it5 (A 81) n (w, a, b, x, y))) 74 (upd (A 74) 14 (nI (n + 1))), B)) : mCall E d nX9_item [.ref 74, .int w, .int a, .int b, .int x, .int y] (SH, A, B) K := by
  have m0 : 5 * A 74 14 = nI (5 * n) := by rw [h14]; exact pk_mul 5 n
  have m1 : 5 * A 74 14 + 1 = nI (5 * n + 1) := by rw [m0]; exact nI_add (5 * n) 1
  have m2 : 5 * A 74 14 + 2 = nI (5 * n + 2) := by rw [m0]; exact nI_add (5 * n) 2
  have m3 : 5 * A 74 14 + 3 = nI (5 * n + 3) := by rw [m0]; exact nI_add (5 * n) 3
  have m4 : 5 * A 74 14 + 4 = nI (5 * n + 4) := by rw [m0]; exact nI_add (5 * n) 4
  have e0 : (5 * A 74 14).toNatClampNeg = 5 * n := by rw [m0]; exact nI_clamp (by omega)
  have e1 : (5 * A 74 14 + 1).toNatClampNeg = 5 * n + 1 := by rw [m1]; exact nI_clamp (by omega)
  have e2 : (5 * A 74 14 + 2).toNatClampNeg = 5 * n + 2 := by rw [m2]; exact nI_clamp (by omega)
  have e3 : (5 * A 74 14 + 3).toNatClampNeg = 5 * n + 3 := by rw [m3]; exact nI_clamp (by omega)
  have e4 : (5 * A 74 14 + 4).toNatClampNeg = 5 * n + 4 := by rw [m4]; exact nI_clamp (by omega)
  have e9 : A 74 14 + 1 = nI (n + 1) := by rw [h14]; exact nI_1 n
  unfold it5 at hK
  refine mCall_sem MX9_item rfl rfl (Or.inl ⟨rfl, rfl, rfl⟩) rfl (mSem_wp MX9_item rfl aX9_item 300 [] (fun cl ax hcl hax => ?_))
  refine ⟨show vp_in (5 * A 74 14) 600 by rw [m0]; exact vp_in_nI (by omega) (by decide), ?_⟩
  refine ⟨show vp_in (5 * A 74 14 + 1) 600 by rw [m1]; exact vp_in_nI (by omega) (by decide), ?_⟩
  refine ⟨show vp_in (5 * A 74 14 + 2) 600 by rw [m2]; exact vp_in_nI (by omega) (by decide), ?_⟩
  refine ⟨show vp_in (5 * A 74 14 + 3) 600 by rw [m3]; exact vp_in_nI (by omega) (by decide), ?_⟩
  refine ⟨show vp_in (5 * A 74 14 + 4) 600 by rw [m4]; exact vp_in_nI (by omega) (by decide), ?_⟩
  have this : K none (SH, va_up (va_up (va_up (va_up (va_up (va_up A 81 (upd (A 81) (5 * A 74 14).toNatClampNeg w)) 81 (upd (upd (A 81) (5 * A 74 14).toNatClampNeg w) (5 * A 74 14 + 1).toNatClampNeg a)) 81 (upd (upd (upd (A 81) (5 * A 74 14).toNatClampNeg w) (5 * A 74 14 + 1).toNatClampNeg a) (5 * A 74 14 + 2).toNatClampNeg b)) 81 (upd (upd (upd (upd (A 81) (5 * A 74 14).toNatClampNeg w) (5 * A 74 14 + 1).toNatClampNeg a) (5 * A 74 14 + 2).toNatClampNeg b) (5 * A 74 14 + 3).toNatClampNeg x)) 81 (upd (upd (upd (upd (upd (A 81) (5 * A 74 14).toNatClampNeg w) (5 * A 74 14 + 1).toNatClampNeg a) (5 * A 74 14 + 2).toNatClampNeg b) (5 * A 74 14 + 3).toNatClampNeg x) (5 * A 74 14 + 4).toNatClampNeg y)) 74 (upd (A 74) 14 (A 74 14 + 1)), B) := by
    rw [up_up, up_up, up_up, up_up, e0, e1, e2, e3, e4, e9]
    exact hK
  exact this
theorem mh90 {E : ME} {d : Nat} {A A0 : Nat → Nat → Int32} {B : Nat → Nat → Int64} {K : MK} {c : Nat → Int32} {k n : Nat} {s : Nat × Bool} {kd ln ft hd : Int32} (hn : n < 120) (hT : MT c k (A 74) s) (h14 : A 74 14 = nI n) (hK : ∀ F I, MT c k F s → (∀ q, q < 7 → F q = A 74 q) → F 14 = nI (n + 1) → F 15 = A 74 15 → F 16 = A 74 16 → F 17 = A 74 17 → F 18 = mx (A 74 18) ft → I = it5 (A 81) n (kd, ln, ft, hd, 0) → K none (SH, va_up (va_up A 81 I) 74 F, B)) : mSem E (d + 1) nX9_readHouse (SH, A0, B) 0 0 K 90 [some (.ref 74), some (.int kd), some (.int ln), some (.int ft), some (.int hd)] [] (SH, A, B) := by
  refine mSem_wp MX9_readHouse rfl aX9_readHouse 300 [] (fun cl ax hcl hax => ?_)
  refine hcl _ _ _ _ (w_item (A := va_up A 74 (upd (A 74) 18 (mx (A 74 18) ft))) hn h14 ?_)
  have this := hK (upd (upd (A 74) 18 (mx (A 74 18) ft)) 14 (nI (n + 1))) (it5 (A 81) n (kd, ln, ft, hd, 0)) hT (fun q hq => by rw [ud_n (by omega), ud_n (by omega)]) rfl rfl rfl rfl rfl rfl
  rw [← up_d (F := upd (A 74) 18 (mx (A 74 18) ft)) (by decide)] at this
  exact this
theorem w_X9_readHouse {E : ME} {d : Nat} {A : Nat → Nat → Int32} {B : Nat → Nat → Int64} {K : MK} {c : Nat → Int32} {k e n : Nat} {V : Nat → Int32} {kd : Int32} (hk : k ≤ 120) (hc : ∀ j, j < k → A 79 j = c j) (hp : ∀ j, j < k → 0 ≤ c j) (hn : n < 120) (hT : MT c k (A 74) (e, false)) (hM : MR (A 75) (A 74) V) (h14 : A 74 14 = nI n) (hK : ∀ F I, MT c k F (houseS c k V e kd).1 → (∀ q, q < 7 → F q = A 74 q) → F 14 = nI (n + 1) → F 15 = A 74 15 + 1 → F 16 = A 74 16 → F 17 = A 74 17 → F 18 = mx (A 74 18) (tv c k (hk3 c k V e).1) → I = it5 (A 81) n (houseS c k V e kd).2 → K none (SH, va_up (va_up A 81 I) 74 F, B)) : mCall E (d + 6) nX9_readHouse [.ref 74, .int kd] (SH, A, B) K := by
  obtain ⟨m3, m5, m17, m18⟩ := hM
  have s25 : ∀ F, MT c k F (hk1 c k V e) → RS (A 74) F → mSem E (d + 6) nX9_readHouse (SH, A, B) 0 0 K 25 [some (.ref 74), some (.int kd), none, none, none] [] (SH, va_up A 74 F, B) := fun F f1 f2 => by
    refine mSem_wp MX9_readHouse rfl aX9_readHouse 300 [90] (fun cl ax hcl hax => ?_)
    refine hcl _ _ _ _ (w_number (A := va_up (va_up A 74 F) 74 (upd F 15 (F 15 + 1))) hk hc hp f1 (fun F2 g1 g2 => ?_))
    rw [up_up, up_up]
    have q17 : F2 17 = V 0 := (g2 17 (by omega)).trans ((f2 17 (by omega)).trans m17)
    refine hcl _ _ _ _ (w_after21 (A := va_up A 74 F2) hk hc hp g1 (fun F3 i1 i2 => ?_))
    rw [up_up]
    have i1 : MT c k F3 (nS c k (hk3 c k V e) 0 (F2 17 - 1)) := i1
    rw [q17] at i1
    have r3 : ∀ q, q < 7 ∨ 11 < q → F3 q = upd F 15 (F 15 + 1) q := fun q hq => (i2 q hq).trans (g2 q hq)
    have q15 : F3 15 = A 74 15 + 1 := (r3 15 (by omega)).trans (show F 15 + 1 = _ by rw [f2 15 (by omega)])
    have q : ∀ q, (q < 7 ∨ 11 < q) → q ≠ 15 → F3 q = A 74 q := fun q hq h15 => by rw [r3 q hq, ud_n h15, f2 q hq]
    have h11 : F3 11 = bI (hk4 c k V e).2 := i1.2.2.2.2.2.1
    cases hw : (hk4 c k V e).2 with
    | true =>
      rw [hw] at h11
      have hH : hkH c k V e = false := by unfold hkH; rw [hw]; rfl
      unfold houseS at hK
      rw [hH] at hK
      refine ⟨fun _ => ?_, fun (z : F3 11 = 0) => absurd (z.symm.trans h11) (by decide)⟩
      refine hax _ _ _ _ (mh90 (A := va_up A 74 F3) (d := d + 5) hn i1 ((q 14 (by omega) (by omega)).trans h14) (fun F4 I j1 j2 j3 j4 j5 j6 j7 j8 => ?_))
      have this := hK F4 I j1 (fun x hx => (j2 x hx).trans (q x (by omega) (by omega))) j3 (j4.trans q15) (j5.trans (q 16 (by omega) (by omega))) (j6.trans (q 17 (by omega) (by omega))) (by rw [j7]; show mx (F3 18) _ = _; rw [q 18 (by omega) (by omega)]; rfl) j8
      rw [← up_d (F := F3) (by decide)] at this
      exact this
    | false =>
      rw [hw] at h11
      refine ⟨fun (z : ¬ F3 11 = 0) => absurd h11 z, fun _ => ?_⟩
      have i1' : MT c k F3 (hk4 c k V e) := i1
      refine hcl _ _ _ _ (w_mw22 (A := va_up A 74 F3) (e := (hk4 c k V e).1) hk i1'.2.2.2.2.2.2 hc i1'.2.1 i1'.2.2.1 i1'.2.2.2.1 (fun wy => ?_) (fun wn => ?_))
      · refine ⟨fun h9 => absurd h9 (by decide), fun _ => ?_⟩
        have hH : hkH c k V e = true := by unfold hkH; rw [hw, decide_eq_true wy]; rfl
        unfold houseS at hK
        rw [hH] at hK
        refine hcl _ _ _ _ (w_after22 (A := va_up A 74 F3) hk hc hp i1' (fun F5 l1 l2 => ?_))
        rw [up_up]
        refine hax _ _ _ _ (mh90 (A := va_up A 74 F5) (d := d + 5) hn l1 (((l2 14 (by omega)).trans (q 14 (by omega) (by omega))).trans h14) (fun F4 I j1 j2 j3 j4 j5 j6 j7 j8 => ?_))
        have this := hK F4 I j1 (fun x hx => (j2 x hx).trans ((l2 x (by omega)).trans (q x (by omega) (by omega)))) j3 (j4.trans ((l2 15 (by omega)).trans q15)) (j5.trans ((l2 16 (by omega)).trans (q 16 (by omega) (by omega)))) (j6.trans ((l2 17 (by omega)).trans (q 17 (by omega) (by omega)))) (by rw [j7]; show mx (F5 18) _ = _; rw [l2 18 (by omega)]; show mx (F3 18) _ = _; rw [q 18 (by omega) (by omega)]; rfl) j8
        rw [← up_d (F := F5) (by decide)] at this
        exact this
      · refine ⟨fun _ => ?_, fun h9 => absurd h9 (by decide)⟩
        have hH : hkH c k V e = false := by unfold hkH; rw [hw, decide_eq_false wn]; rfl
        unfold houseS at hK
        rw [hH] at hK
        refine hax _ _ _ _ (mh90 (A := va_up A 74 F3) (d := d + 5) hn i1 ((q 14 (by omega) (by omega)).trans h14) (fun F4 I j1 j2 j3 j4 j5 j6 j7 j8 => ?_))
        have this := hK F4 I j1 (fun x hx => (j2 x hx).trans (q x (by omega) (by omega))) j3 (j4.trans q15) (j5.trans (q 16 (by omega) (by omega))) (j6.trans (q 17 (by omega) (by omega))) (by rw [j7]; show mx (F3 18) _ = _; rw [q 18 (by omega) (by omega)]; rfl) j8
        rw [← up_d (F := F3) (by decide)] at this
        exact this
  unfold hk1 at s25
  refine mCall_sem MX9_readHouse rfl rfl (Or.inl ⟨rfl, rfl, rfl⟩) rfl (mSem_wp MX9_readHouse rfl aX9_readHouse 300 [25] (fun cl ax hcl hax => ?_))
  refine ⟨vl 3 rfl rfl, ?_⟩
  refine ⟨fun (z : 12 ≤ A 75 3 + A 74 15) => ?_, fun (z : ¬ 12 ≤ A 75 3 + A 74 15) => ?_⟩
  · rw [m3] at z
    rw [decide_eq_false (show ¬ V 3 < 12 by clear hK s25 hcl hax; grind)] at s25
    refine hcl _ _ _ _ (w_must (s := (e, false)) false rfl hk hc hp hT (fun F f1 f2 => ?_))
    exact hax _ _ _ _ (s25 F f1 f2)
  · rw [m3] at z
    rw [decide_eq_true (show V 3 < 12 by clear hK s25 hcl hax; grind)] at s25
    refine hcl _ _ _ _ (w_must (s := (e, false)) true rfl hk hc hp hT (fun F f1 f2 => ?_))
    exact hax _ _ _ _ (s25 F f1 f2)
