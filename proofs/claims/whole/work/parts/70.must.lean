/-! WHAT MUST STAND THERE -/
def mS (c : Nat → Int32) (k : Nat) (s : Nat × Bool) (x : Bool) : Nat × Bool := match s.2 || !x with
  | true => (s.1, true)
  | false => (te c k s.1, false)
def nG (c : Nat → Int32) (k e : Nat) (lo hi : Int32) : Bool := decide (ts c k e = 2) && (decide (lo ≤ tv c k e) && decide (tv c k e ≤ hi))
def nS (c : Nat → Int32) (k : Nat) (s : Nat × Bool) (lo hi : Int32) : Nat × Bool := mS c k s (nG c k s.1 lo hi)
def bI (b : Bool) : Int32 := match b with
  | true => 1
  | false => 0
theorem nG_t {c : Nat → Int32} {k e : Nat} {lo hi : Int32} : nG c k e lo hi = true ↔ ts c k e = 2 ∧ lo ≤ tv c k e ∧ tv c k e ≤ hi := by simp [nG]
theorem mS_w {c : Nat → Int32} {k e : Nat} {x : Bool} : mS c k (e, true) x = (e, true) := rfl
theorem mS_t {c : Nat → Int32} {k e : Nat} : mS c k (e, false) true = (te c k e, false) := rfl
theorem mS_f {c : Nat → Int32} {k e : Nat} : mS c k (e, false) false = (e, true) := rfl
theorem nS_w {c : Nat → Int32} {k e : Nat} {lo hi : Int32} : nS c k (e, true) lo hi = (e, true) := rfl
theorem nS_t {c : Nat → Int32} {k e : Nat} {lo hi : Int32} (h : nG c k e lo hi = true) : nS c k (e, false) lo hi = (te c k e, false) := by
  unfold nS
  rw [h]
  rfl
theorem nS_f {c : Nat → Int32} {k e : Nat} {lo hi : Int32} (h : nG c k e lo hi = false) : nS c k (e, false) lo hi = (e, true) := by
  unfold nS
  rw [h]
  rfl
theorem mS_k {c : Nat → Int32} {k : Nat} {s : Nat × Bool} {x : Bool} (h : s.1 ≤ k) : (mS c k s x).1 ≤ k := by
  unfold mS
  split
  · exact h
  · exact (tk_b c h).2.2.1
def MT (c : Nat → Int32) (k : Nat) (F : Nat → Int32) (s : Nat × Bool) : Prop := F 6 = nI k ∧ F 7 = nI (tb c k s.1) ∧ F 8 = nI (te c k s.1) ∧ F 9 = nI (ts c k s.1) ∧ F 10 = tv c k s.1 ∧ F 11 = bI s.2 ∧ s.1 ≤ k
def RS (F F' : Nat → Int32) : Prop := ∀ q, q < 7 ∨ 11 < q → F' q = F q
theorem RS_t {F F' F'' : Nat → Int32} (h : RS F F') (h' : RS F' F'') : RS F F'' := fun q hq => (h' q hq).trans (h q hq)
theorem w_must {E : ME} {d : Nat} {A : Nat → Nat → Int32} {B : Nat → Nat → Int64} {K : MK} {c : Nat → Int32} {k : Nat} {s : Nat × Bool} {x : Int32} (b : Bool) (ex : x = bI b) (hk : k ≤ 120) (hc : ∀ j, j < k → A 79 j = c j) (hp : ∀ j, j < k → 0 ≤ c j) (hT : MT c k (A 74) s) (hK : ∀ F, MT c k F (mS c k s b) → RS (A 74) F → K none (SH, va_up A 74 F, B)) : mCall E (d + 2) nX9_must [.ref 74, .int x] (SH, A, B) K := by
  subst ex
  obtain ⟨e, w⟩ := s
  obtain ⟨h6, h7, h8, h9, h10, h11, he⟩ := hT
  have he : e ≤ k := he
  have wr : K none (SH, va_up A 74 (upd (A 74) 11 1), B) → K none (SH, va_up A 74 (upd (A 74) 11 1), B) := fun h => h
  cases w with
  | true =>
    have h11 : A 74 11 = 1 := h11
    have fin := hK (upd (A 74) 11 1) ⟨h6, h7, h8, h9, h10, rfl, he⟩ (fun q hq => ud_n (by omega))
    refine mCall_sem MX9_must rfl rfl (Or.inl ⟨rfl, rfl, rfl⟩) rfl (mSem_wp MX9_must rfl aX9_must 300 [] (fun cl ax hcl hax => ?_))
    refine ⟨fun _ => ?_, fun (c0 : A 74 11 = 0) => absurd (c0.symm.trans h11) (by decide)⟩
    refine ⟨rfl, rfl, ?_⟩
    refine ⟨fun _ => ?_, fun (h9 : (1 : Int32) = 0) => absurd h9 (by decide)⟩
    exact fin
  | false =>
    have h11 : A 74 11 = 0 := h11
    cases b with
    | true =>
      refine mCall_sem MX9_must rfl rfl (Or.inl ⟨rfl, rfl, rfl⟩) rfl (mSem_wp MX9_must rfl aX9_must 300 [] (fun cl ax hcl hax => ?_))
      refine ⟨fun (c0 : ¬ A 74 11 = 0) => absurd h11 c0, fun _ => ?_⟩
      refine ⟨fun _ => ?_, fun h9 => absurd h9 (by decide)⟩
      refine ⟨rfl, rfl, ?_⟩
      refine ⟨fun (h9 : ¬ (0 : Int32) = 0) => absurd rfl h9, fun _ => ?_⟩
      refine hcl _ _ _ _ (w_next (A := va_up A 74 (upd (A 74) 11 0)) (c := c) (e := te c k e) hk (tk_b c he).2.2.1 hc hp h6 h8 (fun F f1 f7 f8 f9 f10 => ?_))
      have this := hK F ⟨(f1 6 (by omega)).trans h6, f7, f8, f9, f10, f1 11 (by omega), (tk_b c he).2.2.1⟩ (fun q hq => (f1 q (by omega)).trans (ud_n (by omega)))
      rw [← up_up (F := upd (A 74) 11 0)] at this
      exact this
    | false =>
      have fin := hK (upd (A 74) 11 1) ⟨h6, h7, h8, h9, h10, rfl, he⟩ (fun q hq => ud_n (by omega))
      refine mCall_sem MX9_must rfl rfl (Or.inl ⟨rfl, rfl, rfl⟩) rfl (mSem_wp MX9_must rfl aX9_must 300 [] (fun cl ax hcl hax => ?_))
      refine ⟨fun (c0 : ¬ A 74 11 = 0) => absurd h11 c0, fun _ => ?_⟩
      refine ⟨fun h9 => absurd h9 (by decide), fun _ => ?_⟩
      refine ⟨rfl, rfl, ?_⟩
      refine ⟨fun _ => ?_, fun (h9 : (1 : Int32) = 0) => absurd h9 (by decide)⟩
      exact fin
theorem w_number {E : ME} {d : Nat} {A : Nat → Nat → Int32} {B : Nat → Nat → Int64} {K : MK} {c : Nat → Int32} {k : Nat} {s : Nat × Bool} {lo hi : Int32} (hk : k ≤ 120) (hc : ∀ j, j < k → A 79 j = c j) (hp : ∀ j, j < k → 0 ≤ c j) (hT : MT c k (A 74) s) (hK : ∀ F, MT c k F (nS c k s lo hi) → RS (A 74) F → K (some (.int (tv c k s.1))) (SH, va_up A 74 F, B)) : mCall E (d + 3) nX9_number [.ref 74, .int lo, .int hi] (SH, A, B) K := by
  have h9 := hT.2.2.2.1
  have h10 := hT.2.2.2.2.1
  have hb := tk_b c hT.2.2.2.2.2.2
  rw [← h10] at hK
  unfold nS at hK
  refine mCall_sem MX9_number rfl rfl (Or.inl ⟨rfl, rfl, rfl⟩) rfl (mSem_wp MX9_number rfl aX9_number 300 [] (fun cl ax hcl hax => ?_))
  refine ⟨fun (c0 : ¬ A 74 9 = nI 2) => ?_, fun (c0 : A 74 9 = nI 2) => ?_⟩
  · rw [h9, nI_eq (by omega) (by omega)] at c0
    refine hcl _ _ _ _ (w_must (s := s) false rfl hk hc hp hT (fun F f1 f2 => ?_))
    have e : nG c k s.1 lo hi = false := by
      cases q : nG c k s.1 lo hi with
      | false => rfl
      | true => exact absurd (nG_t.mp q).1 c0
    rw [e] at hK
    exact hK F f1 f2
  · rw [h9, nI_eq (by omega) (by omega)] at c0
    refine hcl _ _ _ _ (w_X9 (fun a1 a2 => ?_) (fun a0 => ?_))
    · have a1 : lo ≤ A 74 10 := a1
      have a2 : A 74 10 ≤ hi := a2
      refine ⟨fun h9 => absurd h9 (by decide), fun _ => ?_⟩
      refine hcl _ _ _ _ (w_must (s := s) true rfl hk hc hp hT (fun F f1 f2 => ?_))
      rw [nG_t.mpr ⟨c0, by rw [← h10]; exact a1, by rw [← h10]; exact a2⟩] at hK
      exact hK F f1 f2
    · have a0 : ¬ (lo ≤ A 74 10 ∧ A 74 10 ≤ hi) := a0
      refine ⟨fun _ => ?_, fun h9 => absurd h9 (by decide)⟩
      refine hcl _ _ _ _ (w_must (s := s) false rfl hk hc hp hT (fun F f1 f2 => ?_))
      have e : nG c k s.1 lo hi = false := by
        cases q : nG c k s.1 lo hi with
        | false => rfl
        | true =>
          have q := (nG_t.mp q).2
          rw [← h10] at q
          exact absurd q a0
      rw [e] at hK
      exact hK F f1 f2
theorem w_after21 {E : ME} {d : Nat} {A : Nat → Nat → Int32} {B : Nat → Nat → Int64} {K : MK} {c : Nat → Int32} {k : Nat} {s : Nat × Bool} {lo hi : Int32} (hk : k ≤ 120) (hc : ∀ j, j < k → A 79 j = c j) (hp : ∀ j, j < k → 0 ≤ c j) (hT : MT c k (A 74) s) (hK : ∀ F, MT c k F (nS c k (mS c k s (decide (WD c k s.1 w_at))) lo hi) → RS (A 74) F → K (some (.int (tv c k (mS c k s (decide (WD c k s.1 w_at))).1))) (SH, va_up A 74 F, B)) : mCall E (d + 5) nX9_after [.ref 74, .ref 1031, .int lo, .int hi] (SH, A, B) K := by
  refine mCall_sem MX9_after rfl rfl (Or.inl ⟨rfl, rfl, rfl⟩) rfl (mSem_wp MX9_after rfl aX9_after 300 [] (fun cl ax hcl hax => ?_))
  refine hcl _ _ _ _ (w_mw21 hk hT.2.2.2.2.2.2 hc hT.2.1 hT.2.2.1 hT.2.2.2.1 (fun q => ?_) (fun q => ?_))
  · refine hcl _ _ _ _ (w_must (s := s) true rfl hk hc hp hT (fun F f1 f2 => ?_))
    rw [decide_eq_true q] at hK
    refine hcl _ _ _ _ (w_number (A := va_up A 74 F) hk hc hp f1 (fun F2 g1 g2 => ?_))
    have this := hK F2 g1 (RS_t f2 g2)
    rw [← up_up (F := F)] at this
    exact this
  · refine hcl _ _ _ _ (w_must (s := s) false rfl hk hc hp hT (fun F f1 f2 => ?_))
    rw [decide_eq_false q] at hK
    refine hcl _ _ _ _ (w_number (A := va_up A 74 F) hk hc hp f1 (fun F2 g1 g2 => ?_))
    have this := hK F2 g1 (RS_t f2 g2)
    rw [← up_up (F := F)] at this
    exact this
theorem w_after22 {E : ME} {d : Nat} {A : Nat → Nat → Int32} {B : Nat → Nat → Int64} {K : MK} {c : Nat → Int32} {k : Nat} {s : Nat × Bool} {lo hi : Int32} (hk : k ≤ 120) (hc : ∀ j, j < k → A 79 j = c j) (hp : ∀ j, j < k → 0 ≤ c j) (hT : MT c k (A 74) s) (hK : ∀ F, MT c k F (nS c k (mS c k s (decide (WD c k s.1 w_hold))) lo hi) → RS (A 74) F → K (some (.int (tv c k (mS c k s (decide (WD c k s.1 w_hold))).1))) (SH, va_up A 74 F, B)) : mCall E (d + 5) nX9_after [.ref 74, .ref 1032, .int lo, .int hi] (SH, A, B) K := by
  refine mCall_sem MX9_after rfl rfl (Or.inl ⟨rfl, rfl, rfl⟩) rfl (mSem_wp MX9_after rfl aX9_after 300 [] (fun cl ax hcl hax => ?_))
  refine hcl _ _ _ _ (w_mw22 hk hT.2.2.2.2.2.2 hc hT.2.1 hT.2.2.1 hT.2.2.2.1 (fun q => ?_) (fun q => ?_))
  · refine hcl _ _ _ _ (w_must (s := s) true rfl hk hc hp hT (fun F f1 f2 => ?_))
    rw [decide_eq_true q] at hK
    refine hcl _ _ _ _ (w_number (A := va_up A 74 F) hk hc hp f1 (fun F2 g1 g2 => ?_))
    have this := hK F2 g1 (RS_t f2 g2)
    rw [← up_up (F := F)] at this
    exact this
  · refine hcl _ _ _ _ (w_must (s := s) false rfl hk hc hp hT (fun F f1 f2 => ?_))
    rw [decide_eq_false q] at hK
    refine hcl _ _ _ _ (w_number (A := va_up A 74 F) hk hc hp f1 (fun F2 g1 g2 => ?_))
    have this := hK F2 g1 (RS_t f2 g2)
    rw [← up_up (F := F)] at this
    exact this
theorem w_after27 {E : ME} {d : Nat} {A : Nat → Nat → Int32} {B : Nat → Nat → Int64} {K : MK} {c : Nat → Int32} {k : Nat} {s : Nat × Bool} {lo hi : Int32} (hk : k ≤ 120) (hc : ∀ j, j < k → A 79 j = c j) (hp : ∀ j, j < k → 0 ≤ c j) (hT : MT c k (A 74) s) (hK : ∀ F, MT c k F (nS c k (mS c k s (decide (WD c k s.1 w_from))) lo hi) → RS (A 74) F → K (some (.int (tv c k (mS c k s (decide (WD c k s.1 w_from))).1))) (SH, va_up A 74 F, B)) : mCall E (d + 5) nX9_after [.ref 74, .ref 1037, .int lo, .int hi] (SH, A, B) K := by
  refine mCall_sem MX9_after rfl rfl (Or.inl ⟨rfl, rfl, rfl⟩) rfl (mSem_wp MX9_after rfl aX9_after 300 [] (fun cl ax hcl hax => ?_))
  refine hcl _ _ _ _ (w_mw27 hk hT.2.2.2.2.2.2 hc hT.2.1 hT.2.2.1 hT.2.2.2.1 (fun q => ?_) (fun q => ?_))
  · refine hcl _ _ _ _ (w_must (s := s) true rfl hk hc hp hT (fun F f1 f2 => ?_))
    rw [decide_eq_true q] at hK
    refine hcl _ _ _ _ (w_number (A := va_up A 74 F) hk hc hp f1 (fun F2 g1 g2 => ?_))
    have this := hK F2 g1 (RS_t f2 g2)
    rw [← up_up (F := F)] at this
    exact this
  · refine hcl _ _ _ _ (w_must (s := s) false rfl hk hc hp hT (fun F f1 f2 => ?_))
    rw [decide_eq_false q] at hK
    refine hcl _ _ _ _ (w_number (A := va_up A 74 F) hk hc hp f1 (fun F2 g1 g2 => ?_))
    have this := hK F2 g1 (RS_t f2 g2)
    rw [← up_up (F := F)] at this
    exact this
theorem w_after28 {E : ME} {d : Nat} {A : Nat → Nat → Int32} {B : Nat → Nat → Int64} {K : MK} {c : Nat → Int32} {k : Nat} {s : Nat × Bool} {lo hi : Int32} (hk : k ≤ 120) (hc : ∀ j, j < k → A 79 j = c j) (hp : ∀ j, j < k → 0 ≤ c j) (hT : MT c k (A 74) s) (hK : ∀ F, MT c k F (nS c k (mS c k s (decide (WD c k s.1 w_for))) lo hi) → RS (A 74) F → K (some (.int (tv c k (mS c k s (decide (WD c k s.1 w_for))).1))) (SH, va_up A 74 F, B)) : mCall E (d + 5) nX9_after [.ref 74, .ref 1038, .int lo, .int hi] (SH, A, B) K := by
  refine mCall_sem MX9_after rfl rfl (Or.inl ⟨rfl, rfl, rfl⟩) rfl (mSem_wp MX9_after rfl aX9_after 300 [] (fun cl ax hcl hax => ?_))
  refine hcl _ _ _ _ (w_mw28 hk hT.2.2.2.2.2.2 hc hT.2.1 hT.2.2.1 hT.2.2.2.1 (fun q => ?_) (fun q => ?_))
  · refine hcl _ _ _ _ (w_must (s := s) true rfl hk hc hp hT (fun F f1 f2 => ?_))
    rw [decide_eq_true q] at hK
    refine hcl _ _ _ _ (w_number (A := va_up A 74 F) hk hc hp f1 (fun F2 g1 g2 => ?_))
    have this := hK F2 g1 (RS_t f2 g2)
    rw [← up_up (F := F)] at this
    exact this
  · refine hcl _ _ _ _ (w_must (s := s) false rfl hk hc hp hT (fun F f1 f2 => ?_))
    rw [decide_eq_false q] at hK
    refine hcl _ _ _ _ (w_number (A := va_up A 74 F) hk hc hp f1 (fun F2 g1 g2 => ?_))
    have this := hK F2 g1 (RS_t f2 g2)
    rw [← up_up (F := F)] at this
    exact this
theorem w_after29 {E : ME} {d : Nat} {A : Nat → Nat → Int32} {B : Nat → Nat → Int64} {K : MK} {c : Nat → Int32} {k : Nat} {s : Nat × Bool} {lo hi : Int32} (hk : k ≤ 120) (hc : ∀ j, j < k → A 79 j = c j) (hp : ∀ j, j < k → 0 ≤ c j) (hT : MT c k (A 74) s) (hK : ∀ F, MT c k F (nS c k (mS c k s (decide (WD c k s.1 w_went))) lo hi) → RS (A 74) F → K (some (.int (tv c k (mS c k s (decide (WD c k s.1 w_went))).1))) (SH, va_up A 74 F, B)) : mCall E (d + 5) nX9_after [.ref 74, .ref 1039, .int lo, .int hi] (SH, A, B) K := by
  refine mCall_sem MX9_after rfl rfl (Or.inl ⟨rfl, rfl, rfl⟩) rfl (mSem_wp MX9_after rfl aX9_after 300 [] (fun cl ax hcl hax => ?_))
  refine hcl _ _ _ _ (w_mw29 hk hT.2.2.2.2.2.2 hc hT.2.1 hT.2.2.1 hT.2.2.2.1 (fun q => ?_) (fun q => ?_))
  · refine hcl _ _ _ _ (w_must (s := s) true rfl hk hc hp hT (fun F f1 f2 => ?_))
    rw [decide_eq_true q] at hK
    refine hcl _ _ _ _ (w_number (A := va_up A 74 F) hk hc hp f1 (fun F2 g1 g2 => ?_))
    have this := hK F2 g1 (RS_t f2 g2)
    rw [← up_up (F := F)] at this
    exact this
  · refine hcl _ _ _ _ (w_must (s := s) false rfl hk hc hp hT (fun F f1 f2 => ?_))
    rw [decide_eq_false q] at hK
    refine hcl _ _ _ _ (w_number (A := va_up A 74 F) hk hc hp f1 (fun F2 g1 g2 => ?_))
    have this := hK F2 g1 (RS_t f2 g2)
    rw [← up_up (F := F)] at this
    exact this
/-! X: the next is .. -/
theorem w_nin {E : ME} {d : Nat} {A : Nat → Nat → Int32} {B : Nat → Nat → Int64} {K : MK} {c : Nat → Int32} {k e : Nat} {lo hi : Int32} (hk : k ≤ 120) (he : e ≤ k) (hc : ∀ j, j < k → A 63 j = c j) (hT : TX c k (A 45) e) (k1 : nG c k (te c k e) lo hi = true → ∀ F, TX c k F (te c k e) → K (some (.int 1)) (SH, va_up A 45 F, B)) (k0 : nG c k (te c k e) lo hi = false → ∀ F, TX c k F (te c k e) → K (some (.int 0)) (SH, va_up A 45 F, B)) : mCall E (d + 2) nX6_nextIsNumber [.ref 45, .int lo, .int hi] (SH, A, B) K := by
  have he2 := (tk_b c he).2.2.1
  have ht := (tk_b c he2).2.2.2.1
  refine mCall_sem MX6_nextIsNumber rfl rfl (Or.inl ⟨rfl, rfl, rfl⟩) rfl (mSem_wp MX6_nextIsNumber rfl aX6_nextIsNumber 300 [] (fun cl ax hcl hax => ?_))
  refine hcl _ _ _ _ (w_nextToken (c := c) (e := te c k e) hk he2 hc hT.1 hT.2.2.2.1 (fun F hF => ?_))
  have tx2 : F 3 = 2 ↔ ts c k (te c k e) = 2 := by
    rw [hF.2.1]
    unfold tx
    split
    · exact ⟨fun z => absurd z (by decide), fun z => by omega⟩
    · exact nI_eq (a := ts c k (te c k e)) (b := 2) (by omega) (by decide)
  have no : ¬ (ts c k (te c k e) = 2 ∧ lo ≤ tv c k (te c k e) ∧ tv c k (te c k e) ≤ hi) → nG c k (te c k e) lo hi = false := fun q => by
    cases z : nG c k (te c k e) lo hi with
    | false => rfl
    | true => exact absurd (nG_t.mp z) q
  refine ⟨fun (c0 : ¬ F 3 = 2) => ⟨rfl, k0 (no (fun q => c0 (tx2.mpr q.1))) F hF⟩, fun (c0 : F 3 = 2) => ?_⟩
  rw [tx2] at c0
  have h6 := hF.2.2.2.2 c0
  refine hcl _ _ _ _ (w_X8 (fun a1 a2 => ?_) (fun a0 => ?_))
  · have a1 : lo ≤ F 6 := a1
    have a2 : F 6 ≤ hi := a2
    rw [h6] at a1 a2
    refine ⟨fun h9 => absurd h9 (by decide), fun _ => ?_⟩
    exact ⟨rfl, k1 (nG_t.mpr ⟨c0, a1, a2⟩) F hF⟩
  · have a0 : ¬ (lo ≤ F 6 ∧ F 6 ≤ hi) := a0
    rw [h6] at a0
    refine ⟨fun _ => ?_, fun h9 => absurd h9 (by decide)⟩
    exact ⟨rfl, k0 (no (fun q => a0 q.2)) F hF⟩
theorem w_niw4 {E : ME} {d : Nat} {A : Nat → Nat → Int32} {B : Nat → Nat → Int64} {K : MK} {c : Nat → Int32} {k e : Nat} (hk : k ≤ 120) (he : e ≤ k) (hc : ∀ j, j < k → A 63 j = c j) (hT : TX c k (A 45) e) (k1 : decide (WD c k (te c k e) w_from) = true → ∀ F, TX c k F (te c k e) → K (some (.int 1)) (SH, va_up A 45 F, B)) (k0 : decide (WD c k (te c k e) w_from) = false → ∀ F, TX c k F (te c k e) → K (some (.int 0)) (SH, va_up A 45 F, B)) : mCall E (d + 5) nX6_nextIsWord [.ref 45, .ref 1014] (SH, A, B) K := by
  have he2 := (tk_b c he).2.2.1
  refine mCall_sem MX6_nextIsWord rfl rfl (Or.inl ⟨rfl, rfl, rfl⟩) rfl (mSem_wp MX6_nextIsWord rfl aX6_nextIsWord 300 [] (fun cl ax hcl hax => ?_))
  refine hcl _ _ _ _ (w_nextToken (c := c) (e := te c k e) hk he2 hc hT.1 hT.2.2.2.1 (fun F hF => ?_))
  exact hcl _ _ _ _ (w_xw4 (A := va_up A 45 F) hk he2 hc hF (fun q => ⟨rfl, k1 (decide_eq_true q) F hF⟩) (fun q => ⟨rfl, k0 (decide_eq_false q) F hF⟩))
theorem w_niw5 {E : ME} {d : Nat} {A : Nat → Nat → Int32} {B : Nat → Nat → Int64} {K : MK} {c : Nat → Int32} {k e : Nat} (hk : k ≤ 120) (he : e ≤ k) (hc : ∀ j, j < k → A 63 j = c j) (hT : TX c k (A 45) e) (k1 : decide (WD c k (te c k e) w_for) = true → ∀ F, TX c k F (te c k e) → K (some (.int 1)) (SH, va_up A 45 F, B)) (k0 : decide (WD c k (te c k e) w_for) = false → ∀ F, TX c k F (te c k e) → K (some (.int 0)) (SH, va_up A 45 F, B)) : mCall E (d + 5) nX6_nextIsWord [.ref 45, .ref 1015] (SH, A, B) K := by
  have he2 := (tk_b c he).2.2.1
  refine mCall_sem MX6_nextIsWord rfl rfl (Or.inl ⟨rfl, rfl, rfl⟩) rfl (mSem_wp MX6_nextIsWord rfl aX6_nextIsWord 300 [] (fun cl ax hcl hax => ?_))
  refine hcl _ _ _ _ (w_nextToken (c := c) (e := te c k e) hk he2 hc hT.1 hT.2.2.2.1 (fun F hF => ?_))
  exact hcl _ _ _ _ (w_xw5 (A := va_up A 45 F) hk he2 hc hF (fun q => ⟨rfl, k1 (decide_eq_true q) F hF⟩) (fun q => ⟨rfl, k0 (decide_eq_false q) F hF⟩))
theorem w_niw6 {E : ME} {d : Nat} {A : Nat → Nat → Int32} {B : Nat → Nat → Int64} {K : MK} {c : Nat → Int32} {k e : Nat} (hk : k ≤ 120) (he : e ≤ k) (hc : ∀ j, j < k → A 63 j = c j) (hT : TX c k (A 45) e) (k1 : decide (WD c k (te c k e) w_went) = true → ∀ F, TX c k F (te c k e) → K (some (.int 1)) (SH, va_up A 45 F, B)) (k0 : decide (WD c k (te c k e) w_went) = false → ∀ F, TX c k F (te c k e) → K (some (.int 0)) (SH, va_up A 45 F, B)) : mCall E (d + 5) nX6_nextIsWord [.ref 45, .ref 1016] (SH, A, B) K := by
  have he2 := (tk_b c he).2.2.1
  refine mCall_sem MX6_nextIsWord rfl rfl (Or.inl ⟨rfl, rfl, rfl⟩) rfl (mSem_wp MX6_nextIsWord rfl aX6_nextIsWord 300 [] (fun cl ax hcl hax => ?_))
  refine hcl _ _ _ _ (w_nextToken (c := c) (e := te c k e) hk he2 hc hT.1 hT.2.2.2.1 (fun F hF => ?_))
  exact hcl _ _ _ _ (w_xw6 (A := va_up A 45 F) hk he2 hc hF (fun q => ⟨rfl, k1 (decide_eq_true q) F hF⟩) (fun q => ⟨rfl, k0 (decide_eq_false q) F hF⟩))
theorem w_niw13 {E : ME} {d : Nat} {A : Nat → Nat → Int32} {B : Nat → Nat → Int64} {K : MK} {c : Nat → Int32} {k e : Nat} (hk : k ≤ 120) (he : e ≤ k) (hc : ∀ j, j < k → A 63 j = c j) (hT : TX c k (A 45) e) (k1 : decide (WD c k (te c k e) w_at) = true → ∀ F, TX c k F (te c k e) → K (some (.int 1)) (SH, va_up A 45 F, B)) (k0 : decide (WD c k (te c k e) w_at) = false → ∀ F, TX c k F (te c k e) → K (some (.int 0)) (SH, va_up A 45 F, B)) : mCall E (d + 5) nX6_nextIsWord [.ref 45, .ref 1023] (SH, A, B) K := by
  have he2 := (tk_b c he).2.2.1
  refine mCall_sem MX6_nextIsWord rfl rfl (Or.inl ⟨rfl, rfl, rfl⟩) rfl (mSem_wp MX6_nextIsWord rfl aX6_nextIsWord 300 [] (fun cl ax hcl hax => ?_))
  refine hcl _ _ _ _ (w_nextToken (c := c) (e := te c k e) hk he2 hc hT.1 hT.2.2.2.1 (fun F hF => ?_))
  exact hcl _ _ _ _ (w_xw13 (A := va_up A 45 F) hk he2 hc hF (fun q => ⟨rfl, k1 (decide_eq_true q) F hF⟩) (fun q => ⟨rfl, k0 (decide_eq_false q) F hF⟩))
