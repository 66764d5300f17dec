/-! X READS -/
def AG (A A' : Nat → Nat → Int32) : Prop := ∀ q, q < 45 ∨ 62 < q → A' q = A q
theorem AG_r {A : Nat → Nat → Int32} : AG A A := fun _ _ => rfl
theorem AG_t {A A' A'' : Nat → Nat → Int32} (h : AG A A') (h' : AG A' A'') : AG A A'' := fun q hq => (h' q hq).trans (h q hq)
theorem AG_u {A A' : Nat → Nat → Int32} {n : Nat} {F : Nat → Int32} (h : AG A A') (hn : 45 ≤ n ∧ n ≤ 62) : AG A (va_up A' n F) := fun q hq => (up_n (by omega)).trans (h q hq)
def XK (c : Nat → Int32) (k : Nat) (A : Nat → Nat → Int32) (B : Nat → Nat → Int64) (V : Nat → Int32) (r : (Nat × Bool) × Int32 × Int32 × Int32 × Int32 × Int32) (K : MK) : Prop := (r.1.2 = false → ∀ A', AG A A' → TX c k (A' 45) r.1.1 → DR A' (apI V r.2) → K (some (.int 1)) (SH, A', B)) ∧ (r.1.2 = true → ∀ A', AG A A' → TX c k (A' 45) r.1.1 → K (some (.int 0)) (SH, A', B))
theorem XK_0 {c : Nat → Int32} {k : Nat} {A : Nat → Nat → Int32} {B : Nat → Nat → Int64} {V : Nat → Int32} {r : (Nat × Bool) × Int32 × Int32 × Int32 × Int32 × Int32} {K : MK} {x : Nat} (h : XK c k A B V r K) (e : r.1 = (x, true)) {A' : Nat → Nat → Int32} (a : AG A A') (t : TX c k (A' 45) x) : K (some (.int 0)) (SH, A', B) := by
  have h := h.2
  rw [e] at h
  exact h rfl A' a t
theorem XK_1 {c : Nat → Int32} {k : Nat} {A : Nat → Nat → Int32} {B : Nat → Nat → Int64} {V V' : Nat → Int32} {r : (Nat × Bool) × Int32 × Int32 × Int32 × Int32 × Int32} {K : MK} {x : Nat} (h : XK c k A B V r K) (e : r.1 = (x, false)) (e2 : apI V r.2 = V') {A' : Nat → Nat → Int32} (a : AG A A') (t : TX c k (A' 45) x) (d : DR A' V') : K (some (.int 1)) (SH, A', B) := by
  have h := h.1
  rw [e, e2] at h
  exact h rfl A' a t d
theorem edge_g {c : Nat → Int32} {k e : Nat} {f : Int32} (f0 : -1 ≤ f) (f1 : f ≤ 9999) : nG c k e (mx 100 (f + 1)) 9999 = true ↔ nG c k e 100 9999 = true ∧ ¬ tv c k e ≤ f := by
  rw [nG_t, nG_t]
  generalize tv c k e = v
  unfold mx
  refine ⟨fun ⟨a, b, d⟩ => ⟨⟨a, ?_, d⟩, ?_⟩, fun ⟨⟨a, b, d⟩, z⟩ => ⟨a, ?_, d⟩⟩
  · split at b <;> grind
  · split at b <;> grind
  · split <;> grind
theorem w_readEdge {E : ME} {d : Nat} {A : Nat → Nat → Int32} {B : Nat → Nat → Int64} {K : MK} {c : Nat → Int32} {k e : Nat} {V : Nat → Int32} (hk : k ≤ 120) (he : e ≤ k) (hc : ∀ j, j < k → A 63 j = c j) (hT : TX c k (A 45) e) (hD : DR A V) (hK : XK c k A B V (edgeS c k V e) K) : mCall E (d + 3) nX6_readEdge [.ref 45] (SH, A, B) K := by
  have he1 := (tk_b c he).2.2.1
  have he2 := (tk_b c he1).2.2.1
  have fb := fr_b hD
  have eg := edge_g (c := c) (k := k) (e := te c k e) fb.1 fb.2
  obtain ⟨kk, k12, kx, k3, kh⟩ := hD.2.1
  have kx : A 49 0 = nI kk := kx
  have k3 : V 3 = nI kk := k3
  have efr : fr V = fa V kk := by unfold fr; rw [k3, nI_clamp (by omega)]
  have any : ∀ v, (∃ i, i < kk ∧ A 54 i = 0 ∧ v ≤ A 52 i) ↔ ∃ i, i < kk ∧ ¬ V (19 + 5 * i) = 1 ∧ v ≤ V (17 + 5 * i) := fun v => by
    have eq : ∀ i, i < kk → (A 54 i = 0 ↔ ¬ V (19 + 5 * i) = 1) ∧ A 52 i = V (17 + 5 * i) := fun i hi => by
      obtain ⟨⟨_, _, a3, _, a5⟩, _, _, _, _, a6⟩ := kh i hi
      have a5 : A 54 i = V (19 + 5 * i) := a5
      have a6 : (V (19 + 5 * i) = 0 ∧ V (17 + 5 * i) < V 0) ∨ V (19 + 5 * i) = 1 := a6
      refine ⟨?_, a3⟩
      rw [a5]
      exact ⟨fun z y => absurd (z.symm.trans y) (by decide), fun z => (a6.resolve_right z).1⟩
    exact ⟨fun ⟨i, i1, i2, i3⟩ => ⟨i, i1, (eq i i1).1.mp i2, by rw [← (eq i i1).2]; exact i3⟩, fun ⟨i, i1, i2, i3⟩ => ⟨i, i1, (eq i i1).1.mpr i2, by rw [(eq i i1).2]; exact i3⟩⟩
  have er : (edgeS c k V e).1 = nS c k (te c k e, false) (mx 100 (fr V + 1)) 9999 := rfl
  have no : ¬ (nG c k (te c k e) 100 9999 = true ∧ ¬ tv c k (te c k e) ≤ fr V) → (edgeS c k V e).1 = (te c k e, true) := fun q => by
    rw [er, nS_f]
    cases z : nG c k (te c k e) (mx 100 (fr V + 1)) 9999 with
    | false => rfl
    | true => exact absurd (eg.mp z) q
  refine mCall_sem MX6_readEdge rfl rfl (Or.inl ⟨rfl, rfl, rfl⟩) rfl (mSem_wp MX6_readEdge rfl aX6_readEdge 300 [] (fun cl ax hcl hax => ?_))
  refine hcl _ _ _ _ (w_nin hk he hc hT (fun g F hF => ?_) (fun g F hF => ?_))
  · refine ⟨fun h9 => absurd h9 (by decide), fun _ => ?_⟩
    have h6 : F 6 = tv c k (te c k e) := hF.2.2.2.2 (nG_t.mp g).1
    have v100 : 100 ≤ tv c k (te c k e) := (nG_t.mp g).2.1
    have vle : (∃ i, i < kk ∧ A 54 i = 0 ∧ F 6 ≤ A 52 i) ↔ tv c k (te c k e) ≤ fr V := by
      rw [any, h6, efr]
      exact (fa_le (by clear hK hcl hax kh any eg no; grind) kk).symm
    refine hcl _ _ _ _ (w_anyAt49 (A := va_up A 45 F) (v := F 6) k12 kx (fun q => ?_) (fun q => ?_))
    · have q := vle.mp q
      refine ⟨fun h9 => absurd h9 (by decide), fun _ => ?_⟩
      exact ⟨rfl, XK_0 hK (no (fun z => z.2 q)) (AG_u AG_r (by omega)) hF⟩
    · have q2 : ¬ tv c k (te c k e) ≤ fr V := fun z => q (vle.mpr z)
      have q3 : ¬ ∃ i, i < kk ∧ ¬ V (19 + 5 * i) = 1 ∧ tv c k (te c k e) ≤ V (17 + 5 * i) := fun z => by
        rw [← h6, ← any, vle] at z
        exact q2 z
      refine ⟨fun _ => ?_, fun h9 => absurd h9 (by decide)⟩
      refine hcl _ _ _ _ (w_nextToken (A := va_up (va_up A 45 F) 47 (upd (A 47) 0 (F 6))) (c := c) (e := te c k (te c k e)) hk he2 hc hF.1 hF.2.2.2.1 (fun F2 hF2 => ?_))
      refine ⟨rfl, XK_1 hK (er.trans (nS_t (eg.mpr ⟨g, q2⟩))) apI_edge (AG_u (AG_u (AG_u AG_r (by omega)) (by omega)) (by omega)) hF2 ?_⟩
      have dr := DR_edge (A := va_up A 45 F) hD v100 (nG_t.mp g).2.2 k3 k12 q3
      have e1 : (mS c k (e, false) true).1 = te c k e := rfl
      rw [e1, ← h6]
      rw [← h6] at dr
      exact dr
  · refine ⟨fun _ => ?_, fun h9 => absurd h9 (by decide)⟩
    exact ⟨rfl, XK_0 hK (no (fun z => by rw [g] at z; exact absurd z.1 (by decide))) (AG_u AG_r (by omega)) hF⟩
theorem w_readPace {E : ME} {d : Nat} {A : Nat → Nat → Int32} {B : Nat → Nat → Int64} {K : MK} {c : Nat → Int32} {k e : Nat} {V : Nat → Int32} (hk : k ≤ 120) (he : e ≤ k) (hc : ∀ j, j < k → A 63 j = c j) (hT : TX c k (A 45) e) (hD : DR A V) (hK : XK c k A B V (paceS c k e) K) : mCall E (d + 3) nX6_readPace [.ref 45] (SH, A, B) K := by
  have he1 := (tk_b c he).2.2.1
  have he2 := (tk_b c he1).2.2.1
  have he3 := (tk_b c he2).2.2.1
  have er : (paceS c k e).1 = nS c k (nS c k (te c k e, false) 0 8) 0 60 := rfl
  refine mCall_sem MX6_readPace rfl rfl (Or.inl ⟨rfl, rfl, rfl⟩) rfl (mSem_wp MX6_readPace rfl aX6_readPace 300 [] (fun cl ax hcl hax => ?_))
  refine hcl _ _ _ _ (w_nin hk he hc hT (fun g F hF => ?_) (fun g F hF => ?_))
  · refine ⟨fun _ => ?_, fun h9 => absurd h9 (by decide)⟩
    have h6 : F 6 = tv c k (te c k e) := hF.2.2.2.2 (nG_t.mp g).1
    obtain ⟨_, l0, l8⟩ := nG_t.mp g
    obtain ⟨l, hl, el⟩ := ix_le 8 l0 l8 rfl
    refine hcl _ _ _ _ (w_nin (A := va_up A 45 F) hk he1 hc hF (fun g2 F2 hF2 => ?_) (fun g2 F2 hF2 => ?_))
    · refine ⟨fun _ => ?_, fun h9 => absurd h9 (by decide)⟩
      have h62 : F2 6 = tv c k (te c k (te c k e)) := hF2.2.2.2.2 (nG_t.mp g2).1
      obtain ⟨_, p0, p1⟩ := nG_t.mp g2
      refine ⟨show vp_in (F 6) 9 by rw [h6, el]; exact vp_in_nI (by omega) (by decide), ?_⟩
      have ei : (F 6).toNatClampNeg = l := by rw [h6, el]; exact nI_clamp (by omega)
      refine hcl _ _ _ _ (w_nextToken (A := va_up (va_up (va_up A 45 F) 45 F2) 48 (upd (A 48) (F 6).toNatClampNeg (F2 6))) (c := c) (e := te c k (te c k (te c k e))) hk he3 hc hF2.1 hF2.2.2.2.1 (fun F3 hF3 => ?_))
      refine ⟨rfl, XK_1 (V' := upd V (6 + l) (tv c k (te c k (te c k e)))) hK ?_ ?_ (AG_u (AG_u (AG_u (AG_u AG_r (by omega)) (by omega)) (by omega)) (by omega)) hF3 ?_⟩
      · rw [er, nS_t g, nS_t g2]
      · have : (paceS c k e).2 = (11, tv c k (te c k e), tv c k (nS c k (te c k e, false) 0 8).1, 0, 0) := rfl
        rw [this, nS_t g, el, apI_pace (by omega)]
      · rw [ei, h62]
        exact DR_pace (A := va_up (va_up A 45 F) 45 F2) hD (by omega) p0 p1
    · refine ⟨fun h9 => absurd h9 (by decide), fun _ => ?_⟩
      refine ⟨rfl, XK_0 hK (x := te c k (te c k e)) ?_ (AG_u (AG_u AG_r (by omega)) (by omega)) hF2⟩
      rw [er, nS_t g, nS_f g2]
  · refine ⟨fun h9 => absurd h9 (by decide), fun _ => ?_⟩
    refine ⟨rfl, XK_0 hK (x := te c k e) ?_ (AG_u AG_r (by omega)) hF⟩
    rw [er, nS_f g]
    rfl
set_option maxRecDepth 100000 in
theorem wbits : ∀ s, s < 128 → ∀ v, v < 7 → ((nI s >>> (nI v &&& 31) = 0) ↔ s < 2 ^ v) ∧ (nI s ||| ((1 : Int32) <<< (nI v &&& 31)) = nI (s ||| 2 ^ v)) ∧ (s < 2 ^ v → 2 ^ v ≤ s ||| 2 ^ v ∧ s ||| 2 ^ v < 2 ^ (v + 1)) := by decide +kernel
theorem wbit1 : ∀ v, v < 7 → (1 : Int32) <<< (nI v &&& 31) = nI (2 ^ v) := by decide
theorem lt_pow {s l v : Nat} (a : 2 ^ l ≤ s) (b : s < 2 ^ (l + 1)) : s < 2 ^ v ↔ l < v := by
  constructor
  · intro h
    rcases Nat.lt_or_ge l v with q | q
    · exact q
    · have := Nat.pow_le_pow_right (n := 2) (by decide) q
      omega
  · intro h
    have := Nat.pow_le_pow_right (n := 2) (by decide) (show l + 1 ≤ v by omega)
    omega
theorem wm_t {c : Nat → Int32} {k f e : Nat} {l z : Int32} (h : ts c k e = 2) (g : nG c k e (l + 1) 6 = true) : wmL c k (f + 1) (e, false) l z = wmL c k f (te c k e, false) (tv c k e) (z ||| ((1 : Int32) <<< (tv c k e &&& 31))) := by
  rw [wmL]
  have : (!(e, false).2 && decide (ts c k (e, false).1 = 2)) = true := by simp [h]
  rw [this, nS_t g]
theorem wm_f {c : Nat → Int32} {k f e : Nat} {l z : Int32} (h : ts c k e = 2) (g : nG c k e (l + 1) 6 = false) : (wmL c k (f + 1) (e, false) l z).1 = (e, true) := by
  rw [wmL]
  have : (!(e, false).2 && decide (ts c k (e, false).1 = 2)) = true := by simp [h]
  rw [this, nS_f g]
  show (wmL c k f (e, true) _ _).1 = _
  rw [wmL_p rfl]
theorem wm_n {c : Nat → Int32} {k f e : Nat} {l z : Int32} (h : ¬ ts c k e = 2) : wmL c k (f + 1) (e, false) l z = ((e, false), z) := by
  rw [wmL]
  have : (!(e, false).2 && decide (ts c k (e, false).1 = 2)) = false := by simp [h]
  rw [this]
theorem tx_2 {c : Nat → Int32} {k e : Nat} (he : e ≤ k) : tx c k e = 2 ↔ ts c k e = 2 := by
  have h := (tk_b c he).2.2.2.1
  unfold tx
  split
  · rename_i q
    exact ⟨fun z => absurd z (by decide), fun z => by omega⟩
  · exact nI_eq (a := ts c k e) (b := 2) (by omega) (by decide)
theorem lp_xwm {E : ME} {d : Nat} {A A0 : Nat → Nat → Int32} {B : Nat → Nat → Int64} {K : MK} {c : Nat → Int32} {k : Nat} {V : Nat → Int32} (hk : k ≤ 120) (r : (Nat × Bool) × Int32) (hK : XK c k A B V (r.1, 12, r.2, 0, 0, 0) K) : ∀ (f e l s i : Nat) (A1 : Nat → Nat → Int32), e ≤ k → l ≤ 6 → 7 ≤ l + f → i ≤ l → 2 ^ l ≤ s → s < 2 ^ (l + 1) → AG A A1 → (∀ j, j < k → A1 63 j = c j) → TX c k (A1 45) e → DR A1 V → wmL c k f (e, false) (nI l) (nI s) = r → mSem E (d + 2) nX6_readWarm (SH, A0, B) 0 0 K 25 [some (.ref 45), some (.int (nI s)), some (.int (nI i))] [] (SH, A1, B) := by
  intro f
  induction f with
  | zero => intro e l s i A1 _ _ h; omega
  | succ f ih =>
    intro e l s i A1 he hl hf hi s0 s1 ag hc hT hD hr
    have p7 : 2 ^ (l + 1) ≤ 2 ^ 7 := Nat.pow_le_pow_right (by decide) (by omega)
    have s128 : s < 128 := by omega
    refine mSem_wp MX6_readWarm rfl aX6_readWarm 300 [25] (fun cl ax hcl hax => ?_)
    refine ⟨fun (q : nI 7 ≤ nI i) => absurd ((nI_leI (by omega) (by omega)).mp q) (by omega), fun _ => ?_⟩
    refine ⟨fun (q : ¬ A1 45 3 = 2) => ?_, fun (q : A1 45 3 = 2) => ?_⟩
    · rw [hT.2.1, tx_2 he] at q
      rw [wm_n q] at hr
      subst hr
      exact ⟨rfl, XK_1 hK rfl apI_warm (AG_u ag (by omega)) hT (DR_warm hD (nI_pos' (by omega)) (nI_le (b := 127) (by omega) (by decide)))⟩
    · rw [hT.2.1, tx_2 he] at q
      have h6 : A1 45 6 = tv c k e := hT.2.2.2.2 q
      refine hcl _ _ _ _ (w_X8 (fun a1 a2 => ?_) (fun a0 => ?_))
      · have a1 : 0 ≤ A1 45 6 := a1
        have a2 : A1 45 6 ≤ 6 := a2
        obtain ⟨v, hv, ev⟩ := ix_le 6 a1 a2 rfl
        have ev2 : tv c k e = nI v := h6.symm.trans ev
        obtain ⟨w1, w2, w3⟩ := wbits s s128 v (by omega)
        have gv : nG c k e (nI l + 1) 6 = true ↔ l < v := by
          rw [nG_t, ev2, nI_1, nI_leI (by omega) (by omega)]
          exact ⟨fun z => z.2.1, fun z => ⟨q, z, nI_le (b := 6) hv (by decide)⟩⟩
        refine ⟨fun h9 => absurd h9 (by decide), fun _ => ?_⟩
        refine ⟨fun (z : nI s >>> (A1 45 6 &&& 31) = 0) => ?_, fun (z : ¬ nI s >>> (A1 45 6 &&& 31) = 0) => ?_⟩
        · rw [ev, w1] at z
          have lv := (lt_pow s0 s1).mp z
          rw [wm_t q (gv.mpr lv), ev2, w2] at hr
          refine hcl _ _ _ _ (w_nextToken (A := A1) (c := c) (e := te c k e) hk (tk_b c he).2.2.1 hc hT.1 hT.2.2.2.1 (fun F hF => ?_))
          have this := ih (te c k e) v (s ||| 2 ^ v) (i + 1) (va_up A1 45 F) (tk_b c he).2.2.1 hv (by omega) (by omega) (w3 z).1 (w3 z).2 (AG_u ag (by omega)) hc hF hD hr
          rw [← nI_1, ← w2, ← ev] at this
          exact hax _ _ _ _ this
        · rw [ev, w1, lt_pow s0 s1] at z
          have gf : nG c k e (nI l + 1) 6 = false := by
            cases y : nG c k e (nI l + 1) 6 with
            | false => rfl
            | true => exact absurd (gv.mp y) z
          exact ⟨rfl, XK_0 hK (by show r.1 = (e, true); rw [← hr]; exact wm_f q gf) ag hT⟩
      · have a0 : ¬ (0 ≤ A1 45 6 ∧ A1 45 6 ≤ 6) := a0
        rw [h6] at a0
        have gf : nG c k e (nI l + 1) 6 = false := by
          cases y : nG c k e (nI l + 1) 6 with
          | false => rfl
          | true =>
            obtain ⟨_, y1, y2⟩ := nG_t.mp y
            rw [nI_1] at y1
            exact absurd ⟨Int32.le_trans (nI_pos' (by omega)) y1, y2⟩ a0
        refine ⟨fun _ => ?_, fun h9 => absurd h9 (by decide)⟩
        exact ⟨rfl, XK_0 hK (by show r.1 = (e, true); rw [← hr]; exact wm_f q gf) ag hT⟩
theorem w_readWarm {E : ME} {d : Nat} {A : Nat → Nat → Int32} {B : Nat → Nat → Int64} {K : MK} {c : Nat → Int32} {k e : Nat} {V : Nat → Int32} (hk : k ≤ 120) (he : e ≤ k) (hc : ∀ j, j < k → A 63 j = c j) (hT : TX c k (A 45) e) (hD : DR A V) (hK : XK c k A B V (warmS c k e) K) : mCall E (d + 3) nX6_readWarm [.ref 45] (SH, A, B) K := by
  have he1 := (tk_b c he).2.2.1
  have he2 := (tk_b c he1).2.2.1
  have e1 : wm1 c k e = (te c k e, false) := rfl
  refine mCall_sem MX6_readWarm rfl rfl (Or.inl ⟨rfl, rfl, rfl⟩) rfl (mSem_wp MX6_readWarm rfl aX6_readWarm 300 [25] (fun cl ax hcl hax => ?_))
  refine hcl _ _ _ _ (w_nin hk he hc hT (fun g F hF => ?_) (fun g F hF => ?_))
  · refine ⟨fun _ => ?_, fun h9 => absurd h9 (by decide)⟩
    have h6 : F 6 = tv c k (te c k e) := hF.2.2.2.2 (nG_t.mp g).1
    obtain ⟨_, v0, v6⟩ := nG_t.mp g
    obtain ⟨v, hv, ev⟩ := ix_le 6 v0 v6 rfl
    have e2 : wm2 c k e = (te c k (te c k e), false) := nS_t g
    have ez : wmz c k e = nI (2 ^ v) := by
      unfold wmz
      rw [e2]
      show (1 : Int32) <<< (tv c k (te c k e) &&& 31) = _
      rw [ev]
      exact wbit1 v (by omega)
    refine hcl _ _ _ _ (w_nextToken (A := va_up A 45 F) (c := c) (e := te c k (te c k e)) hk he2 hc hF.1 hF.2.2.2.1 (fun F2 hF2 => ?_))
    have this := lp_xwm (E := E) (d := d + 1) (A := A) (A0 := A) (B := B) (K := K) (V := V) hk (wmL c k 9 (wm2 c k e) (tv c k (wm1 c k e).1) (wmz c k e)) hK 9 (te c k (te c k e)) v (2 ^ v) 0 (va_up (va_up A 45 F) 45 F2) he2 hv (by omega) (by omega) (Nat.le_refl _) (Nat.pow_lt_pow_right (by decide) (by omega)) (AG_u (AG_u AG_r (by omega)) (by omega)) hc hF2 hD (by rw [ez, e2, e1, ev])
    rw [← wbit1 v (by omega), ← ev, ← h6] at this
    exact hax _ _ _ _ this
  · refine ⟨fun h9 => absurd h9 (by decide), fun _ => ?_⟩
    refine ⟨rfl, XK_0 hK (x := te c k e) ?_ (AG_u AG_r (by omega)) hF⟩
    have e2 : wm2 c k e = (te c k e, true) := nS_f g
    show (wmL c k 9 (wm2 c k e) _ _).1 = _
    rw [e2, wmL_p rfl]
