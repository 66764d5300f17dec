/-! feed -/
theorem bv8 (x : BitVec 32) (c : Nat) (hc : c ≤ 24) : (x >>> c) &&& 255#32 = (x.sshiftRight c) &&& 255#32 := by
  apply BitVec.eq_of_getLsbD_eq
  intro i hi
  rw [BitVec.getLsbD_and, BitVec.getLsbD_and, BitVec.getLsbD_ushiftRight, BitVec.getLsbD_sshiftRight]
  by_cases h : i < 8
  · have h1 : c + i < 32 := by omega
    have h2 : ¬ 32 ≤ i := by omega
    simp [h1, h2]
  · have : (255#32).getLsbD i = false := by
      rw [BitVec.getLsbD_ofNat]
      have : Nat.testBit 255 i = false := Nat.testBit_lt_two_pow (Nat.lt_of_lt_of_le (show 255 < 2 ^ 8 by decide) (Nat.pow_le_pow_right (by decide) (by omega)))
      rw [this]
      simp
    rw [this]
    simp
def fb (v : Int32) (a : Nat) : Int32 := (v >>> ((8 * nI a) &&& 31)) &&& 255
theorem fbX (v : Int32) (a : Nat) (ha : a < 4) : (v.toUInt32 >>> ((8 * nI a).toUInt32 &&& Int32.toUInt32 31)).toInt32 &&& 255 = fb v a := by
  unfold fb
  apply Int32.toBitVec_inj.1
  rcases (show a = 0 ∨ a = 1 ∨ a = 2 ∨ a = 3 by omega) with rfl | rfl | rfl | rfl
  · exact bv8 v.toBitVec 0 (by omega)
  · exact bv8 v.toBitVec 8 (by omega)
  · exact bv8 v.toBitVec 16 (by omega)
  · exact bv8 v.toBitVec 24 (by omega)
theorem fb_b (v : Int32) (a : Nat) : 0 ≤ fb v a ∧ fb v a ≤ 255 := by
  unfold fb
  obtain ⟨j, hj, h⟩ := pk_andE (v >>> ((8 * nI a) &&& 31)) (m := 255) 8 rfl
  rw [h]
  exact ⟨nI_pos' (by omega), nI_le (b := 255) (by omega) (by decide)⟩
theorem w_put6 {E : ME} {d : Nat} {b : Int32} {A : Nat → Nat → Int32} {B : Nat → Nat → Int64} {K : MK} {k : Nat} (hk : k < 120) (hx : A 45 0 = nI k) (hK : K none (SH, va_up (va_up A 63 (upd (A 63) k b)) 45 (upd (A 45) 0 (nI (k + 1))), B)) : mCall E d nX6_put [.ref 45, .int b] (SH, A, B) K := by
  have e8 : k = (A 45 0).toNatClampNeg := by rw [hx, nI_clamp (by omega)]
  have hv : vp_in (A 45 0) 120 := by rw [hx]; exact vp_in_nI hk (by decide)
  have e6 : nI (k + 1) = A 45 0 + 1 := by rw [hx]; exact (nI_1 k).symm
  rw [e6, e8] at hK
  refine mCall_sem MX6_put rfl rfl (Or.inl ⟨rfl, rfl, rfl⟩) rfl (mSem_wp MX6_put rfl aX6_put 300 [] (fun cl ax hcl hax => ?_))
  refine ⟨hv, ?_⟩
  exact hK
/-- m bytes of n are still to come -/
def fI (v : Int32) (k n m : Nat) (T0 : Nat → Int32) (T Q : Nat → Int32) : Prop := Q 0 = nI (k + (n - m)) ∧ (∀ j, j < k → T j = T0 j) ∧ ∀ r, r < n - m → T (k + r) = fb v (n - 1 - r)
theorem fI_go {v : Int32} {k n m : Nat} {T0 T Q Q' : Nat → Int32} (h : fI v k n (m + 1) T0 T Q) (hm : m + 1 ≤ n) (hQ : Q' 0 = nI (k + (n - (m + 1)) + 1)) : fI v k n m T0 (upd T (k + (n - (m + 1))) (fb v m)) Q' := by
  obtain ⟨h1, h2, h3⟩ := h
  refine ⟨?_, fun j hj => ?_, fun r hr => ?_⟩
  · rw [hQ]; congr 1; omega
  · rw [ud_n (by omega)]; exact h2 j hj
  · by_cases e : r = n - (m + 1)
    · subst e
      rw [ud_s]
      congr 1
      omega
    · rw [ud_n (by omega)]; exact h3 r (by omega)
theorem nI_m1 {m : Nat} (h : m < 2 ^ 31) : (nI m - 1 < 0) ↔ m = 0 := by
  constructor
  · intro q
    rcases Nat.eq_zero_or_pos m with r | r
    · exact r
    · have : (1 : Int32) ≤ nI m := nI_le (a := 1) (b := m) r h
      exfalso
      have h2 : 0 ≤ nI m := nI_pos' h
      grind
  · intro q
    subst q
    decide
theorem lp_X8_feed {E : ME} {d : Nat} {v : Int32} {A A0 : Nat → Nat → Int32} {B : Nat → Nat → Int64} {K : MK} {k n : Nat} (hn : n ≤ 4) (hk : k + n ≤ 120) (T0 : Nat → Int32) (hK : ∀ T Q, fI v k n 0 T0 T Q → K (some (.int (nI (k + n)))) (SH, va_up (va_up A 63 T) 45 Q, B)) : ∀ t : Nat × (Nat → Int32) × (Nat → Int32), (t.1 ≤ n ∧ fI v k n t.1 T0 t.2.1 t.2.2) → mSem E (d + 1) nX8_feed (SH, A0, B) 0 0 K 41 [some (.ref 0), some (.int v), some (.int (nI n)), some (.int (nI t.1 - 1))] [] (SH, va_up (va_up A 63 t.2.1) 45 t.2.2, B) := by
  refine mSem_loop (σ := Nat × (Nat → Int32) × (Nat → Int32)) (h0 := (SH, A0, B)) MX8_feed rfl aX8_feed 300 [41] (fun t => [some (.ref 0), some (.int v), some (.int (nI n)), some (.int (nI t.1 - 1))]) (fun t => (SH, va_up (va_up A 63 t.2.1) 45 t.2.2, B)) (fun t => t.1 ≤ n ∧ fI v k n t.1 T0 t.2.1 t.2.2) (fun t => t.1) ?_
  rintro ⟨m, T, Q⟩ ⟨hm, hI⟩ cl ax hcl hax hlp
  have hm : m ≤ n := hm
  have hI : fI v k n m T0 T Q := hI
  refine ⟨fun (c : nI m - 1 < 0) => ?_, fun (c : ¬ nI m - 1 < 0) => ?_⟩
  · have : m = 0 := (nI_m1 (by omega)).mp c
    subst this
    have e : Q 0 = nI (k + n) := hI.1
    have this := hK T Q hI
    rw [← e] at this
    exact this
  · rw [nI_m1 (by omega)] at c
    obtain ⟨p, rfl⟩ : ∃ p, m = p + 1 := ⟨m - 1, by omega⟩
    have e1 : nI (p + 1) - 1 = nI p := by rw [← nI_1]; clear hcl hax hlp hK; grind
    have eb : (v.toUInt32 >>> ((8 * (nI (p + 1) - 1)).toUInt32 &&& Int32.toUInt32 31)).toInt32 &&& 255 = fb v p := by
      rw [e1]; exact fbX v p (by omega)
    refine hcl _ _ _ _ (w_put6 (A := va_up (va_up A 63 T) 45 Q) (k := k + (n - (p + 1))) (by omega) hI.1 ?_)
    have this : ax 41 [some (.ref 0), some (.int v), some (.int (nI n)), some (.int (nI p - 1))] [] (SH, va_up (va_up A 63 (upd T (k + (n - (p + 1))) (fb v p))) 45 (upd Q 0 (nI (k + (n - (p + 1)) + 1))), B) := hlp (p, _, _) ⟨by show p ≤ n; omega, fI_go hI hm (by show upd Q 0 (nI (k + (n - (p + 1)) + 1)) 0 = _; rw [ud_s])⟩ (by show p < p + 1; omega)
    have e5 : va_up (va_up A 63 (upd T (k + (n - (p + 1))) (fb v p))) 45 (upd Q 0 (nI (k + (n - (p + 1)) + 1))) = va_up (va_up (va_up (va_up A 63 T) 45 Q) 63 (upd T (k + (n - (p + 1))) (fb v p))) 45 (upd Q 0 (nI (k + (n - (p + 1)) + 1))) := by
      rw [up_sw (show 63 ≠ 45 by decide), up_up]
    rw [e5, ← eb, show nI p - 1 = nI (p + 1) - 1 + -1 by rw [e1]; clear hcl hax hlp hK; grind] at this
    exact this
theorem lp_X9_feed {E : ME} {d : Nat} {v : Int32} {A A0 : Nat → Nat → Int32} {B : Nat → Nat → Int64} {K : MK} {k n : Nat} (hn : n ≤ 4) (hk : k + n ≤ 120) (T0 : Nat → Int32) (hK : ∀ T Q, fI v k n 0 T0 T (fun _ => Q 6) → (∀ q, q ≠ 6 → Q q = A 74 q) → K (some (.int (nI (k + n)))) (SH, va_up (va_up A 79 T) 74 Q, B)) : ∀ t : Nat × (Nat → Int32) × (Nat → Int32), (t.1 ≤ n ∧ fI v k n t.1 T0 t.2.1 (fun _ => t.2.2 6) ∧ ∀ q, q ≠ 6 → t.2.2 q = A 74 q) → mSem E d nX9_feed (SH, A0, B) 0 0 K 38 [some (.ref 74), some (.int v), some (.int (nI n)), some (.int (nI t.1 - 1))] [] (SH, va_up (va_up A 79 t.2.1) 74 t.2.2, B) := by
  refine mSem_loop (σ := Nat × (Nat → Int32) × (Nat → Int32)) (h0 := (SH, A0, B)) MX9_feed rfl aX9_feed 300 [38] (fun t => [some (.ref 74), some (.int v), some (.int (nI n)), some (.int (nI t.1 - 1))]) (fun t => (SH, va_up (va_up A 79 t.2.1) 74 t.2.2, B)) (fun t => t.1 ≤ n ∧ fI v k n t.1 T0 t.2.1 (fun _ => t.2.2 6) ∧ ∀ q, q ≠ 6 → t.2.2 q = A 74 q) (fun t => t.1) ?_
  rintro ⟨m, T, Q⟩ ⟨hm, hI, hq⟩ cl ax hcl hax hlp
  have hm : m ≤ n := hm
  have hI : fI v k n m T0 T (fun _ => Q 6) := hI
  have hq : ∀ q, q ≠ 6 → Q q = A 74 q := hq
  refine ⟨fun (c : nI m - 1 < 0) => ?_, fun (c : ¬ nI m - 1 < 0) => ?_⟩
  · have : m = 0 := (nI_m1 (by omega)).mp c
    subst this
    have e : Q 6 = nI (k + n) := hI.1
    have this := hK T Q hI hq
    rw [← e] at this
    exact this
  · rw [nI_m1 (by omega)] at c
    obtain ⟨p, rfl⟩ : ∃ p, m = p + 1 := ⟨m - 1, by omega⟩
    have e1 : nI (p + 1) - 1 = nI p := by rw [← nI_1]; clear hcl hax hlp hK; grind
    have e6 : Q 6 = nI (k + (n - (p + 1))) := hI.1
    have e7 : (Q 6).toNatClampNeg = k + (n - (p + 1)) := by rw [e6]; exact nI_clamp (by omega)
    refine ⟨show vp_in (Q 6) 120 by rw [e6]; exact vp_in_nI (by omega) (by decide), ?_⟩
    have this : ax 38 [some (.ref 74), some (.int v), some (.int (nI n)), some (.int (nI p - 1))] [] (SH, va_up (va_up A 79 (upd T (k + (n - (p + 1))) (fb v p))) 74 (upd Q 6 (Q 6 + 1)), B) := hlp (p, _, _) ⟨by show p ≤ n; omega, fI_go hI hm (by show upd Q 6 (Q 6 + 1) 6 = _; rw [ud_s, e6, nI_1]), fun q h => by
      show upd Q 6 (Q 6 + 1) q = _
      rw [ud_n h]; exact hq q h⟩ (by show p < p + 1; omega)
    have e5 : va_up (va_up A 79 (upd T (k + (n - (p + 1))) (fb v p))) 74 (upd Q 6 (Q 6 + 1)) = va_up (va_up (va_up (va_up A 79 T) 74 Q) 79 (upd T (k + (n - (p + 1))) (fb v p))) 74 (upd Q 6 (Q 6 + 1)) := by
      rw [up_sw (show 79 ≠ 74 by decide), up_up]
    rw [e5, show fb v p = (v >>> ((8 * (nI (p + 1) - 1)) &&& 31)) &&& 255 by rw [e1]; rfl, show nI p - 1 = nI (p + 1) - 1 + -1 by rw [e1]; clear hcl hax hlp hK; grind, ← e7] at this
    exact this
theorem op_feed {E : ME} {v u : Int32} {A : Nat → Nat → Int32} {B : Nat → Nat → Int64} (h : rAll A B) : rOp E nX8_feed nX9_feed [.int v, .int u] A B := by
  obtain ⟨k, k120, kx, km, kh⟩ := h.2.2.2.1
  refine rOp_of (fun K hK => ?_)
  refine mCall_sem MX8_feed rfl rfl (Or.inl ⟨rfl, rfl, rfl⟩) rfl (mSem_wp MX8_feed rfl aX8_feed 300 [41] (fun cl ax hcl hax => ?_))
  refine hcl _ _ _ _ (w_X8 (fun b1 b2 => ?_) (fun b0 => ?_))
  · refine ⟨fun _ => ?_, fun h9 => absurd h9 (by decide)⟩
    obtain ⟨n, hn, rfl⟩ := ix_le 4 (by grind) b2 rfl
    refine ⟨fun (c : A 45 0 + nI n ≤ nI 120) => ?_, fun (c : ¬ A 45 0 + nI n ≤ nI 120) => ?_⟩
    · rw [kx, nI_add, nI_leI (by omega) (by omega)] at c
      have e : va_up (va_up A 63 (A 63)) 45 (A 45) = A := by
        funext q
        unfold va_up
        split
        · rename_i c; rw [c]
        split
        · rename_i c; rw [c]
        rfl
      have this := lp_X8_feed (E := E) (d := 11) (v := v) (K := K) (A := A) (A0 := A) (B := B) (k := k) (n := n) hn c (A 63) (fun T Q hI => ?_) (n, A 63, A 45) ⟨Nat.le_refl _, by rw [show k + (n - n) = k by omega]; exact kx, fun _ _ => rfl, fun r hr => by omega⟩
      · rw [e] at this
        exact hax _ _ _ _ this
      · refine hK _ _ ?_
        clear hcl hax
        clear cl ax
        refine mCall_k (fun K hK => ?_)
        refine mCall_sem MX9_feed rfl rfl (Or.inl ⟨rfl, rfl, rfl⟩) rfl (mSem_wp MX9_feed rfl aX9_feed 300 [38] (fun cl ax hcl hax => ?_))
        refine hcl _ _ _ _ (w_X9 (fun _ _ => ?_) (fun c0 => absurd (And.intro b1 b2) c0))
        refine ⟨fun _ => ?_, fun h9 => absurd h9 (by decide)⟩
        refine ⟨fun _ => ?_, fun (c2 : ¬ A 74 6 + nI n ≤ nI 120) => by exfalso; rw [km, nI_add, nI_leI (by omega) (by omega)] at c2; omega⟩
        have e2 : va_up (va_up (va_up (va_up A 63 T) 45 Q) 79 (A 79)) 74 (A 74) = va_up (va_up A 63 T) 45 Q := by
          funext q
          unfold va_up
          split
          · rename_i c; rw [c]; rfl
          split
          · rename_i c; rw [c]; rfl
          rfl
        have this := lp_X9_feed (E := E) (d := 12) (v := v) (K := K) (A := va_up (va_up A 63 T) 45 Q) (A0 := va_up (va_up A 63 T) 45 Q) (B := B) (k := k) (n := n) hn c (A 79) (fun T2 Q2 hI2 hq2 => ?_) (n, A 79, A 74) ⟨Nat.le_refl _, ⟨by rw [show k + (n - n) = k by omega]; exact km, fun _ _ => rfl, fun r hr => by omega⟩, fun _ _ => rfl⟩
        · rw [e2] at this
          exact hax _ _ _ _ this
        · refine hK _ _ ⟨rfl, rfl, h.1, ?_, h.2.2.1, ⟨k + n, c, hI.1, hI2.1, fun j hj => ?_⟩, h.2.2.2.2⟩
          · obtain ⟨t1, t2⟩ := h.2.1
            exact ⟨t1.trans (hq2 3 (by omega)).symm, t2⟩
          · show T j = T2 j ∧ 0 ≤ T2 j ∧ T2 j ≤ 255
            by_cases q : j < k
            · rw [hI.2.1 j q, hI2.2.1 j q]
              exact kh j q
            · obtain ⟨r, rfl⟩ : ∃ r, j = k + r := ⟨j - k, by omega⟩
              rw [hI.2.2 r (by omega), hI2.2.2 r (by omega)]
              exact ⟨rfl, fb_b v _⟩
    · rw [kx, nI_add, nI_leI (by omega) (by omega)] at c
      refine hcl _ _ _ _ (w_X8_refuse 1 (by decide) (by decide) ?_)
      refine hK _ _ ?_
      clear hcl hax
      clear cl ax
      refine mCall_k (fun K hK => ?_)
      refine mCall_sem MX9_feed rfl rfl (Or.inl ⟨rfl, rfl, rfl⟩) rfl (mSem_wp MX9_feed rfl aX9_feed 300 [] (fun cl ax hcl hax => ?_))
      refine hcl _ _ _ _ (w_X9 (fun _ _ => ?_) (fun c0 => absurd (And.intro b1 b2) c0))
      refine ⟨fun _ => ?_, fun h9 => absurd h9 (by decide)⟩
      refine ⟨fun (c2 : A 74 6 + nI n ≤ nI 120) => by exfalso; rw [km, nI_add, nI_leI (by omega) (by omega)] at c2; omega, fun _ => ?_⟩
      exact hcl _ _ _ _ (w_X9_finding 1 (by decide) (by decide) (hK _ _ (rEnd_cnt h (by decide))))
  · refine ⟨fun h9 => absurd h9 (by decide), fun _ => ?_⟩
    refine hcl _ _ _ _ (w_X8_refuse 0 (by decide) (by decide) ?_)
    refine hK _ _ ?_
    clear hcl hax
    clear cl ax
    refine mCall_k (fun K hK => ?_)
    refine mCall_sem MX9_feed rfl rfl (Or.inl ⟨rfl, rfl, rfl⟩) rfl (mSem_wp MX9_feed rfl aX9_feed 300 [] (fun cl ax hcl hax => ?_))
    refine hcl _ _ _ _ (w_X9 (fun c1 c2 => absurd (And.intro c1 c2) b0) (fun _ => ?_))
    refine ⟨fun h9 => absurd h9 (by decide), fun _ => ?_⟩
    exact hcl _ _ _ _ (w_X9_finding 0 (by decide) (by decide) (hK _ _ (rEnd_cnt h (by decide))))
