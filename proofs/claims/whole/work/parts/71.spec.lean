/-! ITEMS: what a text tells -/
def apI (V : Nat → Int32) (it : Int32 × Int32 × Int32 × Int32 × Int32) : Nat → Int32 :=
  if it.1 = 10 then upd V 0 it.2.1 else
  if it.1 = 11 then upd V (6 + it.2.1.toNatClampNeg) it.2.2.1 else
  if it.1 = 12 then upd V 2 it.2.1 else
  if it.1 = 13 then upd (upd (upd (upd (upd V (95 + 4 * (V 5).toNatClampNeg) it.2.1) (96 + 4 * (V 5).toNatClampNeg) it.2.2.1) (97 + 4 * (V 5).toNatClampNeg) it.2.2.2.1) (98 + 4 * (V 5).toNatClampNeg) it.2.2.2.2) 5 (nI ((V 5).toNatClampNeg + 1)) else
  upd (upd (upd (upd (upd (upd V (15 + 5 * (V 3).toNatClampNeg) it.1) (16 + 5 * (V 3).toNatClampNeg) it.2.1) (17 + 5 * (V 3).toNatClampNeg) it.2.2.1) (18 + 5 * (V 3).toNatClampNeg) it.2.2.2.1) (19 + 5 * (V 3).toNatClampNeg) 0) 3 (nI ((V 3).toNatClampNeg + 1))
def fr (V : Nat → Int32) : Int32 := fa V (V 3).toNatClampNeg
theorem fa_c {N N' : Nat → Int32} : ∀ h, (∀ j, j < h → N (19 + 5 * j) = N' (19 + 5 * j) ∧ N (17 + 5 * j) = N' (17 + 5 * j)) → fa N h = fa N' h
  | 0, _ => rfl
  | h + 1, q => by
    unfold fa
    rw [fa_c h (fun j hj => q j (by omega)), (q h (by omega)).1, (q h (by omega)).2]
def edgeS (c : Nat → Int32) (k : Nat) (V : Nat → Int32) (e : Nat) : (Nat × Bool) × Int32 × Int32 × Int32 × Int32 × Int32 := (nS c k (mS c k (e, false) true) (mx 100 (fr V + 1)) 9999, 10, tv c k (mS c k (e, false) true).1, 0, 0, 0)
def paceS (c : Nat → Int32) (k e : Nat) : (Nat × Bool) × Int32 × Int32 × Int32 × Int32 × Int32 := (nS c k (nS c k (mS c k (e, false) true) 0 8) 0 60, 11, tv c k (mS c k (e, false) true).1, tv c k (nS c k (mS c k (e, false) true) 0 8).1, 0, 0)
def sk1 (c : Nat → Int32) (k : Nat) (V : Nat → Int32) (e : Nat) : Nat × Bool := mS c k (e, false) (decide (V 5 < 10))
def sk2 (c : Nat → Int32) (k : Nat) (V : Nat → Int32) (e : Nat) : Nat × Bool := nS c k (sk1 c k V e) 0 8
def sk3 (c : Nat → Int32) (k : Nat) (V : Nat → Int32) (e : Nat) : Nat × Bool := mS c k (sk2 c k V e) (decide (WD c k (sk2 c k V e).1 w_from))
def sk4 (c : Nat → Int32) (k : Nat) (V : Nat → Int32) (e : Nat) : Nat × Bool := nS c k (sk3 c k V e) 0 999
def sk5 (c : Nat → Int32) (k : Nat) (V : Nat → Int32) (e : Nat) : Nat × Bool := mS c k (sk4 c k V e) (decide (WD c k (sk4 c k V e).1 w_for))
def sk6 (c : Nat → Int32) (k : Nat) (V : Nat → Int32) (e : Nat) : Nat × Bool := nS c k (sk5 c k V e) 1 60
def sk7 (c : Nat → Int32) (k : Nat) (V : Nat → Int32) (e : Nat) : Nat × Bool := mS c k (sk6 c k V e) (decide (WD c k (sk6 c k V e).1 w_went))
def sk8 (c : Nat → Int32) (k : Nat) (V : Nat → Int32) (e : Nat) : Nat × Bool := nS c k (sk7 c k V e) 0 9999
def stakeS (c : Nat → Int32) (k : Nat) (V : Nat → Int32) (e : Nat) : (Nat × Bool) × Int32 × Int32 × Int32 × Int32 × Int32 := (sk8 c k V e, 13, tv c k (sk1 c k V e).1, tv c k (sk3 c k V e).1, tv c k (sk5 c k V e).1, tv c k (sk7 c k V e).1)
def hk1 (c : Nat → Int32) (k : Nat) (V : Nat → Int32) (e : Nat) : Nat × Bool := mS c k (e, false) (decide (V 3 < 12))
def hk2 (c : Nat → Int32) (k : Nat) (V : Nat → Int32) (e : Nat) : Nat × Bool := nS c k (hk1 c k V e) 0 8
def hk3 (c : Nat → Int32) (k : Nat) (V : Nat → Int32) (e : Nat) : Nat × Bool := mS c k (hk2 c k V e) (decide (WD c k (hk2 c k V e).1 w_at))
def hk4 (c : Nat → Int32) (k : Nat) (V : Nat → Int32) (e : Nat) : Nat × Bool := nS c k (hk3 c k V e) 0 (V 0 - 1)
def hk5 (c : Nat → Int32) (k : Nat) (V : Nat → Int32) (e : Nat) : Nat × Bool := mS c k (hk4 c k V e) (decide (WD c k (hk4 c k V e).1 w_hold))
def hk6 (c : Nat → Int32) (k : Nat) (V : Nat → Int32) (e : Nat) : Nat × Bool := nS c k (hk5 c k V e) 0 99
/-- does 'hold' stand there -/
def hkH (c : Nat → Int32) (k : Nat) (V : Nat → Int32) (e : Nat) : Bool := !(hk4 c k V e).2 && decide (WD c k (hk4 c k V e).1 w_hold)
def houseS (c : Nat → Int32) (k : Nat) (V : Nat → Int32) (e : Nat) (kd : Int32) : (Nat × Bool) × Int32 × Int32 × Int32 × Int32 × Int32 := match hkH c k V e with
  | true => (hk6 c k V e, kd, tv c k (hk1 c k V e).1, tv c k (hk3 c k V e).1, tv c k (hk5 c k V e).1, 0)
  | false => (hk4 c k V e, kd, tv c k (hk1 c k V e).1, tv c k (hk3 c k V e).1, 5, 0)
/-- the seasons behind the first -/
def wmL (c : Nat → Int32) (k : Nat) : Nat → (Nat × Bool) → Int32 → Int32 → (Nat × Bool) × Int32
  | 0, s, _, z => (s, z)
  | f + 1, s, l, z => match !s.2 && decide (ts c k s.1 = 2) with
    | true => wmL c k f (nS c k s (l + 1) 6) (tv c k s.1) (z ||| (match (nS c k s (l + 1) 6).2 with
      | true => 0
      | false => (1 : Int32) <<< (tv c k s.1 &&& 31)))
    | false => (s, z)
def wm1 (c : Nat → Int32) (k e : Nat) : Nat × Bool := mS c k (e, false) true
def wm2 (c : Nat → Int32) (k e : Nat) : Nat × Bool := nS c k (wm1 c k e) 0 6
def wmz (c : Nat → Int32) (k e : Nat) : Int32 := match (wm2 c k e).2 with
  | true => 0
  | false => (1 : Int32) <<< (tv c k (wm1 c k e).1 &&& 31)
def warmS (c : Nat → Int32) (k e : Nat) : (Nat × Bool) × Int32 × Int32 × Int32 × Int32 × Int32 := ((wmL c k 9 (wm2 c k e) (tv c k (wm1 c k e).1) (wmz c k e)).1, 12, (wmL c k 9 (wm2 c k e) (tv c k (wm1 c k e).1) (wmz c k e)).2, 0, 0, 0)
def rdI (c : Nat → Int32) (k : Nat) (V : Nat → Int32) (e : Nat) : (Nat × Bool) × Int32 × Int32 × Int32 × Int32 × Int32 :=
  if WD c k e w_house then houseS c k V e 0 else
  if WD c k e w_roped then houseS c k V e 1 else
  if WD c k e w_sledge then houseS c k V e 2 else
  if WD c k e w_church then houseS c k V e 3 else
  if WD c k e w_ferry then houseS c k V e 4 else
  if WD c k e w_deep then houseS c k V e 5 else
  if WD c k e w_edge then edgeS c k V e else
  if WD c k e w_pace then paceS c k e else
  if WD c k e w_warm then warmS c k e else
  if WD c k e w_stake then stakeS c k V e else ((e, true), 0, 0, 0, 0, 0)
theorem WDx {c : Nat → Int32} {k e : Nat} {w w' : List Int32} (h : WD c k e w) (h' : WD c k e w') (hl : 0 < w.length) (hl' : 0 < w'.length) (hn : ¬ (w.length = w'.length ∧ w.getD 0 0 = w'.getD 0 0)) : False := hn ⟨h.2.1.symm.trans h'.2.1, (h.2.2 0 hl).symm.trans (h'.2.2 0 hl')⟩
theorem rd_roped {c : Nat → Int32} {k : Nat} {V : Nat → Int32} {e : Nat} (h : WD c k e w_roped) : rdI c k V e = houseS c k V e 1 := by
  unfold rdI
  repeat (first | rw [if_pos h] | rw [if_neg (fun q => WDx h q (by decide) (by decide) (by decide))])
theorem rd_sledge {c : Nat → Int32} {k : Nat} {V : Nat → Int32} {e : Nat} (h : WD c k e w_sledge) : rdI c k V e = houseS c k V e 2 := by
  unfold rdI
  repeat (first | rw [if_pos h] | rw [if_neg (fun q => WDx h q (by decide) (by decide) (by decide))])
theorem rd_church {c : Nat → Int32} {k : Nat} {V : Nat → Int32} {e : Nat} (h : WD c k e w_church) : rdI c k V e = houseS c k V e 3 := by
  unfold rdI
  repeat (first | rw [if_pos h] | rw [if_neg (fun q => WDx h q (by decide) (by decide) (by decide))])
theorem rd_ferry {c : Nat → Int32} {k : Nat} {V : Nat → Int32} {e : Nat} (h : WD c k e w_ferry) : rdI c k V e = houseS c k V e 4 := by
  unfold rdI
  repeat (first | rw [if_pos h] | rw [if_neg (fun q => WDx h q (by decide) (by decide) (by decide))])
theorem rd_deep {c : Nat → Int32} {k : Nat} {V : Nat → Int32} {e : Nat} (h : WD c k e w_deep) : rdI c k V e = houseS c k V e 5 := by
  unfold rdI
  repeat (first | rw [if_pos h] | rw [if_neg (fun q => WDx h q (by decide) (by decide) (by decide))])
theorem rd_edge {c : Nat → Int32} {k : Nat} {V : Nat → Int32} {e : Nat} (h : WD c k e w_edge) : rdI c k V e = edgeS c k V e := by
  unfold rdI
  repeat (first | rw [if_pos h] | rw [if_neg (fun q => WDx h q (by decide) (by decide) (by decide))])
theorem rd_pace {c : Nat → Int32} {k : Nat} {V : Nat → Int32} {e : Nat} (h : WD c k e w_pace) : rdI c k V e = paceS c k e := by
  unfold rdI
  repeat (first | rw [if_pos h] | rw [if_neg (fun q => WDx h q (by decide) (by decide) (by decide))])
theorem rd_warm {c : Nat → Int32} {k : Nat} {V : Nat → Int32} {e : Nat} (h : WD c k e w_warm) : rdI c k V e = warmS c k e := by
  unfold rdI
  repeat (first | rw [if_pos h] | rw [if_neg (fun q => WDx h q (by decide) (by decide) (by decide))])
theorem rd_stake {c : Nat → Int32} {k : Nat} {V : Nat → Int32} {e : Nat} (h : WD c k e w_stake) : rdI c k V e = stakeS c k V e := by
  unfold rdI
  repeat (first | rw [if_pos h] | rw [if_neg (fun q => WDx h q (by decide) (by decide) (by decide))])
theorem rd_house {c : Nat → Int32} {k : Nat} {V : Nat → Int32} {e : Nat} (h : WD c k e w_house) : rdI c k V e = houseS c k V e 0 := by
  unfold rdI
  rw [if_pos h]
theorem rd_none {c : Nat → Int32} {k : Nat} {V : Nat → Int32} {e : Nat} (h0 : ¬ WD c k e w_house) (h1 : ¬ WD c k e w_roped) (h2 : ¬ WD c k e w_sledge) (h3 : ¬ WD c k e w_church) (h4 : ¬ WD c k e w_ferry) (h5 : ¬ WD c k e w_deep) (h6 : ¬ WD c k e w_edge) (h7 : ¬ WD c k e w_pace) (h8 : ¬ WD c k e w_warm) (h9 : ¬ WD c k e w_stake) : rdI c k V e = ((e, true), 0, 0, 0, 0, 0) := by
  unfold rdI
  rw [if_neg h0, if_neg h1, if_neg h2, if_neg h3, if_neg h4, if_neg h5, if_neg h6, if_neg h7, if_neg h8, if_neg h9]
/-- once wrong, always wrong there -/
theorem mS_p {c : Nat → Int32} {k : Nat} {s : Nat × Bool} {x : Bool} (h : s.2 = true) : mS c k s x = s := by
  obtain ⟨e, w⟩ := s
  cases h
  rfl
theorem nS_p {c : Nat → Int32} {k : Nat} {s : Nat × Bool} {lo hi : Int32} (h : s.2 = true) : nS c k s lo hi = s := mS_p h
theorem wmL_p {c : Nat → Int32} {k f : Nat} {s : Nat × Bool} {l z : Int32} (h : s.2 = true) : wmL c k f s l z = (s, z) := by
  cases f with
  | zero => rfl
  | succ f => rw [wmL, h]; rfl
def VB (V : Nat → Int32) : Prop := (∃ h, h ≤ 12 ∧ V 3 = nI h) ∧ ∃ s, s ≤ 10 ∧ V 5 = nI s
/-- what the model remembers of the town that it reads -/
def MR (N F V : Nat → Int32) : Prop := N 3 + F 15 = V 3 ∧ N 5 + F 16 = V 5 ∧ F 17 = V 0 ∧ F 18 = fr V
