/-! THE LAW: each call -/
abbrev LL (x : Int32) : ML := [some (.ref 1000), some (.ref 0), some (.ref 74), some (.int x)]
abbrev LS7 (E : ME) (pc : Nat) (L : ML) (h : MH) : Prop := mSem E 13 nL_law mH0 600000 7302250 mYes pc L [] h
set_option maxRecDepth 1000000 in
theorem la_edge {E : ME} {A : Nat → Nat → Int32} {B : Nat → Nat → Int64} {x : Int32} (h : rAll A B) (hv1 : vp_in (x + 1) E.1) (hv2 : vp_in (x + 2) E.1) (hv3 : vp_in (x + 3) E.1) (hv4 : vp_in (x + 4) E.1) (hv5 : vp_in (x + 5) E.1) (nx : ∀ A' B', rAll A' B' → LS7 E 1587 (LL x) (SH, A', B')) : LS7 E 224 (LL x) (SH, A, B) := by
  refine mSem_wp ML_law rfl aL_law 300 [1587] (fun cl ax hcl hax => ?_)
  refine ⟨hv1, ?_⟩
  refine hcl _ _ _ _ (mCall_mono (fun r1 h1 hm => ?_) (op_edge h))
  obtain ⟨⟨v, rfl⟩, hs, hm⟩ := hm
  obtain ⟨s1, A1, B1⟩ := h1
  have hs : s1 = SH := hs
  subst hs
  refine ⟨hv1, ?_⟩
  refine hcl _ _ _ _ (mCall_mono (fun r2 h2 he => ?_) hm)
  obtain ⟨e1, e2, e3⟩ := he
  subst e1
  obtain ⟨s2, A2, B2⟩ := h2
  have e2 : s2 = SH := e2
  subst e2
  exact ⟨fun _ => hax _ _ _ _ (nx A2 B2 e3), fun q => absurd rfl q⟩
set_option maxRecDepth 1000000 in
theorem la_pace {E : ME} {A : Nat → Nat → Int32} {B : Nat → Nat → Int64} {x : Int32} (h : rAll A B) (hv1 : vp_in (x + 1) E.1) (hv2 : vp_in (x + 2) E.1) (hv3 : vp_in (x + 3) E.1) (hv4 : vp_in (x + 4) E.1) (hv5 : vp_in (x + 5) E.1) (nx : ∀ A' B', rAll A' B' → LS7 E 1587 (LL x) (SH, A', B')) : LS7 E 247 (LL x) (SH, A, B) := by
  refine mSem_wp ML_law rfl aL_law 300 [1587] (fun cl ax hcl hax => ?_)
  refine ⟨hv1, ?_⟩
  refine ⟨hv2, ?_⟩
  refine hcl _ _ _ _ (mCall_mono (fun r1 h1 hm => ?_) (op_pace h))
  obtain ⟨⟨v, rfl⟩, hs, hm⟩ := hm
  obtain ⟨s1, A1, B1⟩ := h1
  have hs : s1 = SH := hs
  subst hs
  refine ⟨hv1, ?_⟩
  refine ⟨hv2, ?_⟩
  refine hcl _ _ _ _ (mCall_mono (fun r2 h2 he => ?_) hm)
  obtain ⟨e1, e2, e3⟩ := he
  subst e1
  obtain ⟨s2, A2, B2⟩ := h2
  have e2 : s2 = SH := e2
  subst e2
  exact ⟨fun _ => hax _ _ _ _ (nx A2 B2 e3), fun q => absurd rfl q⟩
set_option maxRecDepth 1000000 in
theorem la_warm {E : ME} {A : Nat → Nat → Int32} {B : Nat → Nat → Int64} {x : Int32} (h : rAll A B) (hv1 : vp_in (x + 1) E.1) (hv2 : vp_in (x + 2) E.1) (hv3 : vp_in (x + 3) E.1) (hv4 : vp_in (x + 4) E.1) (hv5 : vp_in (x + 5) E.1) (nx : ∀ A' B', rAll A' B' → LS7 E 1587 (LL x) (SH, A', B')) : LS7 E 280 (LL x) (SH, A, B) := by
  refine mSem_wp ML_law rfl aL_law 300 [1587] (fun cl ax hcl hax => ?_)
  refine ⟨hv1, ?_⟩
  refine hcl _ _ _ _ (mCall_mono (fun r1 h1 hm => ?_) (op_warm h))
  obtain ⟨⟨v, rfl⟩, hs, hm⟩ := hm
  obtain ⟨s1, A1, B1⟩ := h1
  have hs : s1 = SH := hs
  subst hs
  refine ⟨hv1, ?_⟩
  refine hcl _ _ _ _ (mCall_mono (fun r2 h2 he => ?_) hm)
  obtain ⟨e1, e2, e3⟩ := he
  subst e1
  obtain ⟨s2, A2, B2⟩ := h2
  have e2 : s2 = SH := e2
  subst e2
  exact ⟨fun _ => hax _ _ _ _ (nx A2 B2 e3), fun q => absurd rfl q⟩
set_option maxRecDepth 1000000 in
theorem la_goes {E : ME} {A : Nat → Nat → Int32} {B : Nat → Nat → Int64} {x : Int32} (h : rAll A B) (hv1 : vp_in (x + 1) E.1) (hv2 : vp_in (x + 2) E.1) (hv3 : vp_in (x + 3) E.1) (hv4 : vp_in (x + 4) E.1) (hv5 : vp_in (x + 5) E.1) (nx : ∀ A' B', rAll A' B' → LS7 E 1587 (LL x) (SH, A', B')) : LS7 E 303 (LL x) (SH, A, B) := by
  refine mSem_wp ML_law rfl aL_law 300 [1587] (fun cl ax hcl hax => ?_)
  refine ⟨hv1, ?_⟩
  refine ⟨hv2, ?_⟩
  refine hcl _ _ _ _ (mCall_mono (fun r1 h1 hm => ?_) (op_goes h))
  obtain ⟨⟨v, rfl⟩, hs, hm⟩ := hm
  obtain ⟨s1, A1, B1⟩ := h1
  have hs : s1 = SH := hs
  subst hs
  refine ⟨hv1, ?_⟩
  refine ⟨hv2, ?_⟩
  refine hcl _ _ _ _ (mCall_mono (fun r2 h2 he => ?_) hm)
  obtain ⟨e1, e2, e3⟩ := he
  subst e1
  obtain ⟨s2, A2, B2⟩ := h2
  have e2 : s2 = SH := e2
  subst e2
  exact ⟨fun _ => hax _ _ _ _ (nx A2 B2 e3), fun q => absurd rfl q⟩
set_option maxRecDepth 1000000 in
theorem la_strain {E : ME} {A : Nat → Nat → Int32} {B : Nat → Nat → Int64} {x : Int32} (h : rAll A B) (hv1 : vp_in (x + 1) E.1) (hv2 : vp_in (x + 2) E.1) (hv3 : vp_in (x + 3) E.1) (hv4 : vp_in (x + 4) E.1) (hv5 : vp_in (x + 5) E.1) (nx : ∀ A' B', rAll A' B' → LS7 E 1587 (LL x) (SH, A', B')) : LS7 E 336 (LL x) (SH, A, B) := by
  refine mSem_wp ML_law rfl aL_law 300 [1587] (fun cl ax hcl hax => ?_)
  refine ⟨hv1, ?_⟩
  refine ⟨hv2, ?_⟩
  refine hcl _ _ _ _ (mCall_mono (fun r1 h1 hm => ?_) (op_strain h))
  obtain ⟨⟨v, rfl⟩, hs, hm⟩ := hm
  obtain ⟨s1, A1, B1⟩ := h1
  have hs : s1 = SH := hs
  subst hs
  refine ⟨hv1, ?_⟩
  refine ⟨hv2, ?_⟩
  refine hcl _ _ _ _ (mCall_mono (fun r2 h2 he => ?_) hm)
  obtain ⟨e1, e2, e3⟩ := he
  subst e1
  obtain ⟨s2, A2, B2⟩ := h2
  have e2 : s2 = SH := e2
  subst e2
  exact ⟨fun _ => hax _ _ _ _ (nx A2 B2 e3), fun q => absurd rfl q⟩
set_option maxRecDepth 1000000 in
theorem la_crack {E : ME} {A : Nat → Nat → Int32} {B : Nat → Nat → Int64} {x : Int32} (h : rAll A B) (hv1 : vp_in (x + 1) E.1) (hv2 : vp_in (x + 2) E.1) (hv3 : vp_in (x + 3) E.1) (hv4 : vp_in (x + 4) E.1) (hv5 : vp_in (x + 5) E.1) (nx : ∀ A' B', rAll A' B' → LS7 E 1587 (LL x) (SH, A', B')) : LS7 E 369 (LL x) (SH, A, B) := by
  refine mSem_wp ML_law rfl aL_law 300 [1587] (fun cl ax hcl hax => ?_)
  refine ⟨hv1, ?_⟩
  refine hcl _ _ _ _ (mCall_mono (fun r1 h1 hm => ?_) (op_crack h))
  obtain ⟨⟨v, rfl⟩, hs, hm⟩ := hm
  obtain ⟨s1, A1, B1⟩ := h1
  have hs : s1 = SH := hs
  subst hs
  refine ⟨hv1, ?_⟩
  refine hcl _ _ _ _ (mCall_mono (fun r2 h2 he => ?_) hm)
  obtain ⟨e1, e2, e3⟩ := he
  subst e1
  obtain ⟨s2, A2, B2⟩ := h2
  have e2 : s2 = SH := e2
  subst e2
  exact ⟨fun _ => hax _ _ _ _ (nx A2 B2 e3), fun q => absurd rfl q⟩
set_option maxRecDepth 1000000 in
theorem la_house {E : ME} {A : Nat → Nat → Int32} {B : Nat → Nat → Int64} {x : Int32} (h : rAll A B) (hv1 : vp_in (x + 1) E.1) (hv2 : vp_in (x + 2) E.1) (hv3 : vp_in (x + 3) E.1) (hv4 : vp_in (x + 4) E.1) (hv5 : vp_in (x + 5) E.1) (nx : ∀ A' B', rAll A' B' → LS7 E 1587 (LL x) (SH, A', B')) : LS7 E 392 (LL x) (SH, A, B) := by
  refine mSem_wp ML_law rfl aL_law 300 [1587] (fun cl ax hcl hax => ?_)
  refine ⟨hv1, ?_⟩
  refine ⟨hv2, ?_⟩
  refine ⟨hv3, ?_⟩
  refine hcl _ _ _ _ (mCall_mono (fun r1 h1 hm => ?_) (op_house h))
  obtain ⟨⟨v, rfl⟩, hs, hm⟩ := hm
  obtain ⟨s1, A1, B1⟩ := h1
  have hs : s1 = SH := hs
  subst hs
  refine ⟨hv1, ?_⟩
  refine ⟨hv2, ?_⟩
  refine ⟨hv3, ?_⟩
  refine hcl _ _ _ _ (mCall_mono (fun r2 h2 he => ?_) hm)
  obtain ⟨e1, e2, e3⟩ := he
  subst e1
  obtain ⟨s2, A2, B2⟩ := h2
  have e2 : s2 = SH := e2
  subst e2
  exact ⟨fun _ => hax _ _ _ _ (nx A2 B2 e3), fun q => absurd rfl q⟩
set_option maxRecDepth 1000000 in
theorem la_of {E : ME} {A : Nat → Nat → Int32} {B : Nat → Nat → Int64} {x : Int32} (h : rAll A B) (hv1 : vp_in (x + 1) E.1) (hv2 : vp_in (x + 2) E.1) (hv3 : vp_in (x + 3) E.1) (hv4 : vp_in (x + 4) E.1) (hv5 : vp_in (x + 5) E.1) (nx : ∀ A' B', rAll A' B' → LS7 E 1587 (LL x) (SH, A', B')) : LS7 E 435 (LL x) (SH, A, B) := by
  refine mSem_wp ML_law rfl aL_law 300 [1587] (fun cl ax hcl hax => ?_)
  refine ⟨hv1, ?_⟩
  refine ⟨hv2, ?_⟩
  refine hcl _ _ _ _ (mCall_mono (fun r1 h1 hm => ?_) (op_of h))
  obtain ⟨⟨v, rfl⟩, hs, hm⟩ := hm
  obtain ⟨s1, A1, B1⟩ := h1
  have hs : s1 = SH := hs
  subst hs
  refine ⟨hv1, ?_⟩
  refine ⟨hv2, ?_⟩
  refine hcl _ _ _ _ (mCall_mono (fun r2 h2 he => ?_) hm)
  obtain ⟨e1, e2, e3⟩ := he
  subst e1
  obtain ⟨s2, A2, B2⟩ := h2
  have e2 : s2 = SH := e2
  subst e2
  exact ⟨fun _ => hax _ _ _ _ (nx A2 B2 e3), fun q => absurd rfl q⟩
set_option maxRecDepth 1000000 in
theorem la_hold {E : ME} {A : Nat → Nat → Int32} {B : Nat → Nat → Int64} {x : Int32} (h : rAll A B) (hv1 : vp_in (x + 1) E.1) (hv2 : vp_in (x + 2) E.1) (hv3 : vp_in (x + 3) E.1) (hv4 : vp_in (x + 4) E.1) (hv5 : vp_in (x + 5) E.1) (nx : ∀ A' B', rAll A' B' → LS7 E 1587 (LL x) (SH, A', B')) : LS7 E 468 (LL x) (SH, A, B) := by
  refine mSem_wp ML_law rfl aL_law 300 [1587] (fun cl ax hcl hax => ?_)
  refine ⟨hv1, ?_⟩
  refine ⟨hv2, ?_⟩
  refine hcl _ _ _ _ (mCall_mono (fun r1 h1 hm => ?_) (op_hold h))
  obtain ⟨⟨v, rfl⟩, hs, hm⟩ := hm
  obtain ⟨s1, A1, B1⟩ := h1
  have hs : s1 = SH := hs
  subst hs
  refine ⟨hv1, ?_⟩
  refine ⟨hv2, ?_⟩
  refine hcl _ _ _ _ (mCall_mono (fun r2 h2 he => ?_) hm)
  obtain ⟨e1, e2, e3⟩ := he
  subst e1
  obtain ⟨s2, A2, B2⟩ := h2
  have e2 : s2 = SH := e2
  subst e2
  exact ⟨fun _ => hax _ _ _ _ (nx A2 B2 e3), fun q => absurd rfl q⟩
set_option maxRecDepth 1000000 in
theorem la_as {E : ME} {A : Nat → Nat → Int32} {B : Nat → Nat → Int64} {x : Int32} (h : rAll A B) (hv1 : vp_in (x + 1) E.1) (hv2 : vp_in (x + 2) E.1) (hv3 : vp_in (x + 3) E.1) (hv4 : vp_in (x + 4) E.1) (hv5 : vp_in (x + 5) E.1) (nx : ∀ A' B', rAll A' B' → LS7 E 1587 (LL x) (SH, A', B')) : LS7 E 501 (LL x) (SH, A, B) := by
  refine mSem_wp ML_law rfl aL_law 300 [1587] (fun cl ax hcl hax => ?_)
  refine ⟨hv1, ?_⟩
  refine ⟨hv2, ?_⟩
  refine hcl _ _ _ _ (mCall_mono (fun r1 h1 hm => ?_) (op_as h))
  obtain ⟨⟨v, rfl⟩, hs, hm⟩ := hm
  obtain ⟨s1, A1, B1⟩ := h1
  have hs : s1 = SH := hs
  subst hs
  refine ⟨hv1, ?_⟩
  refine ⟨hv2, ?_⟩
  refine hcl _ _ _ _ (mCall_mono (fun r2 h2 he => ?_) hm)
  obtain ⟨e1, e2, e3⟩ := he
  subst e1
  obtain ⟨s2, A2, B2⟩ := h2
  have e2 : s2 = SH := e2
  subst e2
  exact ⟨fun _ => hax _ _ _ _ (nx A2 B2 e3), fun q => absurd rfl q⟩
set_option maxRecDepth 1000000 in
theorem la_turn {E : ME} {A : Nat → Nat → Int32} {B : Nat → Nat → Int64} {x : Int32} (h : rAll A B) (hv1 : vp_in (x + 1) E.1) (hv2 : vp_in (x + 2) E.1) (hv3 : vp_in (x + 3) E.1) (hv4 : vp_in (x + 4) E.1) (hv5 : vp_in (x + 5) E.1) (nx : ∀ A' B', rAll A' B' → LS7 E 1587 (LL x) (SH, A', B')) : LS7 E 534 (LL x) (SH, A, B) := by
  refine mSem_wp ML_law rfl aL_law 300 [1587] (fun cl ax hcl hax => ?_)
  refine ⟨hv1, ?_⟩
  refine ⟨hv2, ?_⟩
  refine hcl _ _ _ _ (mCall_mono (fun r1 h1 hm => ?_) (op_turn h))
  obtain ⟨⟨v, rfl⟩, hs, hm⟩ := hm
  obtain ⟨s1, A1, B1⟩ := h1
  have hs : s1 = SH := hs
  subst hs
  refine ⟨hv1, ?_⟩
  refine ⟨hv2, ?_⟩
  refine hcl _ _ _ _ (mCall_mono (fun r2 h2 he => ?_) hm)
  obtain ⟨e1, e2, e3⟩ := he
  subst e1
  obtain ⟨s2, A2, B2⟩ := h2
  have e2 : s2 = SH := e2
  subst e2
  exact ⟨fun _ => hax _ _ _ _ (nx A2 B2 e3), fun q => absurd rfl q⟩
set_option maxRecDepth 1000000 in
theorem la_haul {E : ME} {A : Nat → Nat → Int32} {B : Nat → Nat → Int64} {x : Int32} (h : rAll A B) (hv1 : vp_in (x + 1) E.1) (hv2 : vp_in (x + 2) E.1) (hv3 : vp_in (x + 3) E.1) (hv4 : vp_in (x + 4) E.1) (hv5 : vp_in (x + 5) E.1) (nx : ∀ A' B', rAll A' B' → LS7 E 1587 (LL x) (SH, A', B')) : LS7 E 567 (LL x) (SH, A, B) := by
  refine mSem_wp ML_law rfl aL_law 300 [1587] (fun cl ax hcl hax => ?_)
  refine ⟨hv1, ?_⟩
  refine ⟨hv2, ?_⟩
  refine hcl _ _ _ _ (mCall_mono (fun r1 h1 hm => ?_) (op_haul h))
  obtain ⟨⟨v, rfl⟩, hs, hm⟩ := hm
  obtain ⟨s1, A1, B1⟩ := h1
  have hs : s1 = SH := hs
  subst hs
  refine ⟨hv1, ?_⟩
  refine ⟨hv2, ?_⟩
  refine hcl _ _ _ _ (mCall_mono (fun r2 h2 he => ?_) hm)
  obtain ⟨e1, e2, e3⟩ := he
  subst e1
  obtain ⟨s2, A2, B2⟩ := h2
  have e2 : s2 = SH := e2
  subst e2
  exact ⟨fun _ => hax _ _ _ _ (nx A2 B2 e3), fun q => absurd rfl q⟩
set_option maxRecDepth 1000000 in
theorem la_years {E : ME} {A : Nat → Nat → Int32} {B : Nat → Nat → Int64} {x : Int32} (h : rAll A B) (hv1 : vp_in (x + 1) E.1) (hv2 : vp_in (x + 2) E.1) (hv3 : vp_in (x + 3) E.1) (hv4 : vp_in (x + 4) E.1) (hv5 : vp_in (x + 5) E.1) (nx : ∀ A' B', rAll A' B' → LS7 E 1587 (LL x) (SH, A', B')) : LS7 E 600 (LL x) (SH, A, B) := by
  refine mSem_wp ML_law rfl aL_law 300 [1587] (fun cl ax hcl hax => ?_)
  refine ⟨hv1, ?_⟩
  refine hcl _ _ _ _ (mCall_mono (fun r1 h1 hm => ?_) (op_years h))
  obtain ⟨⟨v, rfl⟩, hs, hm⟩ := hm
  obtain ⟨s1, A1, B1⟩ := h1
  have hs : s1 = SH := hs
  subst hs
  refine ⟨hv1, ?_⟩
  refine hcl _ _ _ _ (mCall_mono (fun r2 h2 he => ?_) hm)
  obtain ⟨e1, e2, e3⟩ := he
  subst e1
  obtain ⟨s2, A2, B2⟩ := h2
  have e2 : s2 = SH := e2
  subst e2
  exact ⟨fun _ => hax _ _ _ _ (nx A2 B2 e3), fun q => absurd rfl q⟩
set_option maxRecDepth 1000000 in
theorem la_now {E : ME} {A : Nat → Nat → Int32} {B : Nat → Nat → Int64} {x : Int32} (h : rAll A B) (hv1 : vp_in (x + 1) E.1) (hv2 : vp_in (x + 2) E.1) (hv3 : vp_in (x + 3) E.1) (hv4 : vp_in (x + 4) E.1) (hv5 : vp_in (x + 5) E.1) (nx : ∀ A' B', rAll A' B' → LS7 E 1587 (LL x) (SH, A', B')) : LS7 E 623 (LL x) (SH, A, B) := by
  refine mSem_wp ML_law rfl aL_law 300 [1587] (fun cl ax hcl hax => ?_)
  refine ⟨hv1, ?_⟩
  refine hcl _ _ _ _ (mCall_mono (fun r1 h1 hm => ?_) (op_now h))
  obtain ⟨⟨v, rfl⟩, hs, hm⟩ := hm
  obtain ⟨s1, A1, B1⟩ := h1
  have hs : s1 = SH := hs
  subst hs
  refine ⟨hv1, ?_⟩
  refine hcl _ _ _ _ (mCall_mono (fun r2 h2 he => ?_) hm)
  obtain ⟨e1, e2, e3⟩ := he
  subst e1
  obtain ⟨s2, A2, B2⟩ := h2
  have e2 : s2 = SH := e2
  subst e2
  exact ⟨fun _ => hax _ _ _ _ (nx A2 B2 e3), fun q => absurd rfl q⟩
set_option maxRecDepth 1000000 in
theorem la_ahead {E : ME} {A : Nat → Nat → Int32} {B : Nat → Nat → Int64} {x : Int32} (h : rAll A B) (hv1 : vp_in (x + 1) E.1) (hv2 : vp_in (x + 2) E.1) (hv3 : vp_in (x + 3) E.1) (hv4 : vp_in (x + 4) E.1) (hv5 : vp_in (x + 5) E.1) (nx : ∀ A' B', rAll A' B' → LS7 E 1587 (LL x) (SH, A', B')) : LS7 E 646 (LL x) (SH, A, B) := by
  refine mSem_wp ML_law rfl aL_law 300 [1587] (fun cl ax hcl hax => ?_)
  refine ⟨hv1, ?_⟩
  refine ⟨hv2, ?_⟩
  refine hcl _ _ _ _ (mCall_mono (fun r1 h1 hm => ?_) (op_ahead h))
  obtain ⟨⟨v, rfl⟩, hs, hm⟩ := hm
  obtain ⟨s1, A1, B1⟩ := h1
  have hs : s1 = SH := hs
  subst hs
  refine ⟨hv1, ?_⟩
  refine ⟨hv2, ?_⟩
  refine hcl _ _ _ _ (mCall_mono (fun r2 h2 he => ?_) hm)
  obtain ⟨e1, e2, e3⟩ := he
  subst e1
  obtain ⟨s2, A2, B2⟩ := h2
  have e2 : s2 = SH := e2
  subst e2
  exact ⟨fun _ => hax _ _ _ _ (nx A2 B2 e3), fun q => absurd rfl q⟩
set_option maxRecDepth 1000000 in
theorem la_over {E : ME} {A : Nat → Nat → Int32} {B : Nat → Nat → Int64} {x : Int32} (h : rAll A B) (hv1 : vp_in (x + 1) E.1) (hv2 : vp_in (x + 2) E.1) (hv3 : vp_in (x + 3) E.1) (hv4 : vp_in (x + 4) E.1) (hv5 : vp_in (x + 5) E.1) (nx : ∀ A' B', rAll A' B' → LS7 E 1587 (LL x) (SH, A', B')) : LS7 E 679 (LL x) (SH, A, B) := by
  refine mSem_wp ML_law rfl aL_law 300 [1587] (fun cl ax hcl hax => ?_)
  refine ⟨hv1, ?_⟩
  refine hcl _ _ _ _ (mCall_mono (fun r1 h1 hm => ?_) (op_over h))
  obtain ⟨⟨v, rfl⟩, hs, hm⟩ := hm
  obtain ⟨s1, A1, B1⟩ := h1
  have hs : s1 = SH := hs
  subst hs
  refine ⟨hv1, ?_⟩
  refine hcl _ _ _ _ (mCall_mono (fun r2 h2 he => ?_) hm)
  obtain ⟨e1, e2, e3⟩ := he
  subst e1
  obtain ⟨s2, A2, B2⟩ := h2
  have e2 : s2 = SH := e2
  subst e2
  exact ⟨fun _ => hax _ _ _ _ (nx A2 B2 e3), fun q => absurd rfl q⟩
set_option maxRecDepth 1000000 in
theorem la_cost {E : ME} {A : Nat → Nat → Int32} {B : Nat → Nat → Int64} {x : Int32} (h : rAll A B) (hv1 : vp_in (x + 1) E.1) (hv2 : vp_in (x + 2) E.1) (hv3 : vp_in (x + 3) E.1) (hv4 : vp_in (x + 4) E.1) (hv5 : vp_in (x + 5) E.1) (nx : ∀ A' B', rAll A' B' → LS7 E 1587 (LL x) (SH, A', B')) : LS7 E 702 (LL x) (SH, A, B) := by
  refine mSem_wp ML_law rfl aL_law 300 [1587] (fun cl ax hcl hax => ?_)
  refine ⟨hv1, ?_⟩
  refine hcl _ _ _ _ (mCall_mono (fun r1 h1 hm => ?_) (op_cost h))
  obtain ⟨⟨v, rfl⟩, hs, hm⟩ := hm
  obtain ⟨s1, A1, B1⟩ := h1
  have hs : s1 = SH := hs
  subst hs
  refine ⟨hv1, ?_⟩
  refine hcl _ _ _ _ (mCall_mono (fun r2 h2 he => ?_) hm)
  obtain ⟨e1, e2, e3⟩ := he
  subst e1
  obtain ⟨s2, A2, B2⟩ := h2
  have e2 : s2 = SH := e2
  subst e2
  exact ⟨fun _ => hax _ _ _ _ (nx A2 B2 e3), fun q => absurd rfl q⟩
set_option maxRecDepth 1000000 in
theorem la_safe {E : ME} {A : Nat → Nat → Int32} {B : Nat → Nat → Int64} {x : Int32} (h : rAll A B) (hv1 : vp_in (x + 1) E.1) (hv2 : vp_in (x + 2) E.1) (hv3 : vp_in (x + 3) E.1) (hv4 : vp_in (x + 4) E.1) (hv5 : vp_in (x + 5) E.1) (nx : ∀ A' B', rAll A' B' → LS7 E 1587 (LL x) (SH, A', B')) : LS7 E 725 (LL x) (SH, A, B) := by
  refine mSem_wp ML_law rfl aL_law 300 [1587] (fun cl ax hcl hax => ?_)
  refine ⟨hv1, ?_⟩
  refine ⟨hv2, ?_⟩
  refine ⟨hv3, ?_⟩
  refine hcl _ _ _ _ (mCall_mono (fun r1 h1 hm => ?_) (op_safe h))
  obtain ⟨⟨v, rfl⟩, hs, hm⟩ := hm
  obtain ⟨s1, A1, B1⟩ := h1
  have hs : s1 = SH := hs
  subst hs
  refine ⟨hv1, ?_⟩
  refine ⟨hv2, ?_⟩
  refine ⟨hv3, ?_⟩
  refine hcl _ _ _ _ (mCall_mono (fun r2 h2 he => ?_) hm)
  obtain ⟨e1, e2, e3⟩ := he
  subst e1
  obtain ⟨s2, A2, B2⟩ := h2
  have e2 : s2 = SH := e2
  subst e2
  exact ⟨fun _ => hax _ _ _ _ (nx A2 B2 e3), fun q => absurd rfl q⟩
set_option maxRecDepth 1000000 in
theorem la_beside {E : ME} {A : Nat → Nat → Int32} {B : Nat → Nat → Int64} {x : Int32} (h : rAll A B) (hv1 : vp_in (x + 1) E.1) (hv2 : vp_in (x + 2) E.1) (hv3 : vp_in (x + 3) E.1) (hv4 : vp_in (x + 4) E.1) (hv5 : vp_in (x + 5) E.1) (nx : ∀ A' B', rAll A' B' → LS7 E 1587 (LL x) (SH, A', B')) : LS7 E 768 (LL x) (SH, A, B) := by
  refine mSem_wp ML_law rfl aL_law 300 [1587] (fun cl ax hcl hax => ?_)
  refine ⟨hv1, ?_⟩
  refine hcl _ _ _ _ (mCall_mono (fun r1 h1 hm => ?_) (op_beside h))
  obtain ⟨⟨v, rfl⟩, hs, hm⟩ := hm
  obtain ⟨s1, A1, B1⟩ := h1
  have hs : s1 = SH := hs
  subst hs
  refine ⟨hv1, ?_⟩
  refine hcl _ _ _ _ (mCall_mono (fun r2 h2 he => ?_) hm)
  obtain ⟨e1, e2, e3⟩ := he
  subst e1
  obtain ⟨s2, A2, B2⟩ := h2
  have e2 : s2 = SH := e2
  subst e2
  exact ⟨fun _ => hax _ _ _ _ (nx A2 B2 e3), fun q => absurd rfl q⟩
set_option maxRecDepth 1000000 in
theorem la_till {E : ME} {A : Nat → Nat → Int32} {B : Nat → Nat → Int64} {x : Int32} (h : rAll A B) (hv1 : vp_in (x + 1) E.1) (hv2 : vp_in (x + 2) E.1) (hv3 : vp_in (x + 3) E.1) (hv4 : vp_in (x + 4) E.1) (hv5 : vp_in (x + 5) E.1) (nx : ∀ A' B', rAll A' B' → LS7 E 1587 (LL x) (SH, A', B')) : LS7 E 791 (LL x) (SH, A, B) := by
  refine mSem_wp ML_law rfl aL_law 300 [1587] (fun cl ax hcl hax => ?_)
  refine ⟨hv1, ?_⟩
  refine ⟨hv2, ?_⟩
  refine hcl _ _ _ _ (mCall_mono (fun r1 h1 hm => ?_) (op_till h))
  obtain ⟨⟨v, rfl⟩, hs, hm⟩ := hm
  obtain ⟨s1, A1, B1⟩ := h1
  have hs : s1 = SH := hs
  subst hs
  refine ⟨hv1, ?_⟩
  refine ⟨hv2, ?_⟩
  refine hcl _ _ _ _ (mCall_mono (fun r2 h2 he => ?_) hm)
  obtain ⟨e1, e2, e3⟩ := he
  subst e1
  obtain ⟨s2, A2, B2⟩ := h2
  have e2 : s2 = SH := e2
  subst e2
  exact ⟨fun _ => hax _ _ _ _ (nx A2 B2 e3), fun q => absurd rfl q⟩
set_option maxRecDepth 1000000 in
theorem la_straight {E : ME} {A : Nat → Nat → Int32} {B : Nat → Nat → Int64} {x : Int32} (h : rAll A B) (hv1 : vp_in (x + 1) E.1) (hv2 : vp_in (x + 2) E.1) (hv3 : vp_in (x + 3) E.1) (hv4 : vp_in (x + 4) E.1) (hv5 : vp_in (x + 5) E.1) (nx : ∀ A' B', rAll A' B' → LS7 E 1587 (LL x) (SH, A', B')) : LS7 E 824 (LL x) (SH, A, B) := by
  refine mSem_wp ML_law rfl aL_law 300 [1587] (fun cl ax hcl hax => ?_)
  refine ⟨hv1, ?_⟩
  refine ⟨hv2, ?_⟩
  refine hcl _ _ _ _ (mCall_mono (fun r1 h1 hm => ?_) (op_straight h))
  obtain ⟨⟨v, rfl⟩, hs, hm⟩ := hm
  obtain ⟨s1, A1, B1⟩ := h1
  have hs : s1 = SH := hs
  subst hs
  refine ⟨hv1, ?_⟩
  refine ⟨hv2, ?_⟩
  refine hcl _ _ _ _ (mCall_mono (fun r2 h2 he => ?_) hm)
  obtain ⟨e1, e2, e3⟩ := he
  subst e1
  obtain ⟨s2, A2, B2⟩ := h2
  have e2 : s2 = SH := e2
  subst e2
  exact ⟨fun _ => hax _ _ _ _ (nx A2 B2 e3), fun q => absurd rfl q⟩
set_option maxRecDepth 1000000 in
theorem la_when {E : ME} {A : Nat → Nat → Int32} {B : Nat → Nat → Int64} {x : Int32} (h : rAll A B) (hv1 : vp_in (x + 1) E.1) (hv2 : vp_in (x + 2) E.1) (hv3 : vp_in (x + 3) E.1) (hv4 : vp_in (x + 4) E.1) (hv5 : vp_in (x + 5) E.1) (nx : ∀ A' B', rAll A' B' → LS7 E 1587 (LL x) (SH, A', B')) : LS7 E 857 (LL x) (SH, A, B) := by
  refine mSem_wp ML_law rfl aL_law 300 [1587] (fun cl ax hcl hax => ?_)
  refine ⟨hv1, ?_⟩
  refine hcl _ _ _ _ (mCall_mono (fun r1 h1 hm => ?_) (op_when h))
  obtain ⟨⟨v, rfl⟩, hs, hm⟩ := hm
  obtain ⟨s1, A1, B1⟩ := h1
  have hs : s1 = SH := hs
  subst hs
  refine ⟨hv1, ?_⟩
  refine hcl _ _ _ _ (mCall_mono (fun r2 h2 he => ?_) hm)
  obtain ⟨e1, e2, e3⟩ := he
  subst e1
  obtain ⟨s2, A2, B2⟩ := h2
  have e2 : s2 = SH := e2
  subst e2
  exact ⟨fun _ => hax _ _ _ _ (nx A2 B2 e3), fun q => absurd rfl q⟩
set_option maxRecDepth 1000000 in
theorem la_lay {E : ME} {A : Nat → Nat → Int32} {B : Nat → Nat → Int64} {x : Int32} (h : rAll A B) (hv1 : vp_in (x + 1) E.1) (hv2 : vp_in (x + 2) E.1) (hv3 : vp_in (x + 3) E.1) (hv4 : vp_in (x + 4) E.1) (hv5 : vp_in (x + 5) E.1) (nx : ∀ A' B', rAll A' B' → LS7 E 1587 (LL x) (SH, A', B')) : LS7 E 880 (LL x) (SH, A, B) := by
  refine mSem_wp ML_law rfl aL_law 300 [1587] (fun cl ax hcl hax => ?_)
  refine ⟨hv1, ?_⟩
  refine ⟨hv2, ?_⟩
  refine ⟨hv3, ?_⟩
  refine hcl _ _ _ _ (mCall_mono (fun r1 h1 hm => ?_) (op_lay h))
  obtain ⟨⟨v, rfl⟩, hs, hm⟩ := hm
  obtain ⟨s1, A1, B1⟩ := h1
  have hs : s1 = SH := hs
  subst hs
  refine ⟨hv1, ?_⟩
  refine ⟨hv2, ?_⟩
  refine ⟨hv3, ?_⟩
  refine hcl _ _ _ _ (mCall_mono (fun r2 h2 he => ?_) hm)
  obtain ⟨e1, e2, e3⟩ := he
  subst e1
  obtain ⟨s2, A2, B2⟩ := h2
  have e2 : s2 = SH := e2
  subst e2
  exact ⟨fun _ => hax _ _ _ _ (nx A2 B2 e3), fun q => absurd rfl q⟩
set_option maxRecDepth 1000000 in
theorem la_deed {E : ME} {A : Nat → Nat → Int32} {B : Nat → Nat → Int64} {x : Int32} (h : rAll A B) (hv1 : vp_in (x + 1) E.1) (hv2 : vp_in (x + 2) E.1) (hv3 : vp_in (x + 3) E.1) (hv4 : vp_in (x + 4) E.1) (hv5 : vp_in (x + 5) E.1) (nx : ∀ A' B', rAll A' B' → LS7 E 1587 (LL x) (SH, A', B')) : LS7 E 923 (LL x) (SH, A, B) := by
  refine mSem_wp ML_law rfl aL_law 300 [1587] (fun cl ax hcl hax => ?_)
  refine ⟨hv1, ?_⟩
  refine ⟨hv2, ?_⟩
  refine hcl _ _ _ _ (mCall_mono (fun r1 h1 hm => ?_) (op_deed h))
  obtain ⟨⟨v, rfl⟩, hs, hm⟩ := hm
  obtain ⟨s1, A1, B1⟩ := h1
  have hs : s1 = SH := hs
  subst hs
  refine ⟨hv1, ?_⟩
  refine ⟨hv2, ?_⟩
  refine hcl _ _ _ _ (mCall_mono (fun r2 h2 he => ?_) hm)
  obtain ⟨e1, e2, e3⟩ := he
  subst e1
  obtain ⟨s2, A2, B2⟩ := h2
  have e2 : s2 = SH := e2
  subst e2
  exact ⟨fun _ => hax _ _ _ _ (nx A2 B2 e3), fun q => absurd rfl q⟩
set_option maxRecDepth 1000000 in
theorem la_deedOf {E : ME} {A : Nat → Nat → Int32} {B : Nat → Nat → Int64} {x : Int32} (h : rAll A B) (hv1 : vp_in (x + 1) E.1) (hv2 : vp_in (x + 2) E.1) (hv3 : vp_in (x + 3) E.1) (hv4 : vp_in (x + 4) E.1) (hv5 : vp_in (x + 5) E.1) (nx : ∀ A' B', rAll A' B' → LS7 E 1587 (LL x) (SH, A', B')) : LS7 E 956 (LL x) (SH, A, B) := by
  refine mSem_wp ML_law rfl aL_law 300 [1587] (fun cl ax hcl hax => ?_)
  refine ⟨hv1, ?_⟩
  refine ⟨hv2, ?_⟩
  refine hcl _ _ _ _ (mCall_mono (fun r1 h1 hm => ?_) (op_deedOf h))
  obtain ⟨⟨v, rfl⟩, hs, hm⟩ := hm
  obtain ⟨s1, A1, B1⟩ := h1
  have hs : s1 = SH := hs
  subst hs
  refine ⟨hv1, ?_⟩
  refine ⟨hv2, ?_⟩
  refine hcl _ _ _ _ (mCall_mono (fun r2 h2 he => ?_) hm)
  obtain ⟨e1, e2, e3⟩ := he
  subst e1
  obtain ⟨s2, A2, B2⟩ := h2
  have e2 : s2 = SH := e2
  subst e2
  exact ⟨fun _ => hax _ _ _ _ (nx A2 B2 e3), fun q => absurd rfl q⟩
set_option maxRecDepth 1000000 in
theorem la_whose {E : ME} {A : Nat → Nat → Int32} {B : Nat → Nat → Int64} {x : Int32} (h : rAll A B) (hv1 : vp_in (x + 1) E.1) (hv2 : vp_in (x + 2) E.1) (hv3 : vp_in (x + 3) E.1) (hv4 : vp_in (x + 4) E.1) (hv5 : vp_in (x + 5) E.1) (nx : ∀ A' B', rAll A' B' → LS7 E 1587 (LL x) (SH, A', B')) : LS7 E 989 (LL x) (SH, A, B) := by
  refine mSem_wp ML_law rfl aL_law 300 [1587] (fun cl ax hcl hax => ?_)
  refine ⟨hv1, ?_⟩
  refine hcl _ _ _ _ (mCall_mono (fun r1 h1 hm => ?_) (op_whose h))
  obtain ⟨⟨v, rfl⟩, hs, hm⟩ := hm
  obtain ⟨s1, A1, B1⟩ := h1
  have hs : s1 = SH := hs
  subst hs
  refine ⟨hv1, ?_⟩
  refine hcl _ _ _ _ (mCall_mono (fun r2 h2 he => ?_) hm)
  obtain ⟨e1, e2, e3⟩ := he
  subst e1
  obtain ⟨s2, A2, B2⟩ := h2
  have e2 : s2 = SH := e2
  subst e2
  exact ⟨fun _ => hax _ _ _ _ (nx A2 B2 e3), fun q => absurd rfl q⟩
set_option maxRecDepth 1000000 in
theorem la_meet {E : ME} {A : Nat → Nat → Int32} {B : Nat → Nat → Int64} {x : Int32} (h : rAll A B) (hv1 : vp_in (x + 1) E.1) (hv2 : vp_in (x + 2) E.1) (hv3 : vp_in (x + 3) E.1) (hv4 : vp_in (x + 4) E.1) (hv5 : vp_in (x + 5) E.1) (nx : ∀ A' B', rAll A' B' → LS7 E 1587 (LL x) (SH, A', B')) : LS7 E 1012 (LL x) (SH, A, B) := by
  refine mSem_wp ML_law rfl aL_law 300 [1587] (fun cl ax hcl hax => ?_)
  refine ⟨hv1, ?_⟩
  refine ⟨hv2, ?_⟩
  refine ⟨hv3, ?_⟩
  refine hcl _ _ _ _ (mCall_mono (fun r1 h1 hm => ?_) (op_meet h))
  obtain ⟨⟨v, rfl⟩, hs, hm⟩ := hm
  obtain ⟨s1, A1, B1⟩ := h1
  have hs : s1 = SH := hs
  subst hs
  refine ⟨hv1, ?_⟩
  refine ⟨hv2, ?_⟩
  refine ⟨hv3, ?_⟩
  refine hcl _ _ _ _ (mCall_mono (fun r2 h2 he => ?_) hm)
  obtain ⟨e1, e2, e3⟩ := he
  subst e1
  obtain ⟨s2, A2, B2⟩ := h2
  have e2 : s2 = SH := e2
  subst e2
  exact ⟨fun _ => hax _ _ _ _ (nx A2 B2 e3), fun q => absurd rfl q⟩
set_option maxRecDepth 1000000 in
theorem la_stake {E : ME} {A : Nat → Nat → Int32} {B : Nat → Nat → Int64} {x : Int32} (h : rAll A B) (hv1 : vp_in (x + 1) E.1) (hv2 : vp_in (x + 2) E.1) (hv3 : vp_in (x + 3) E.1) (hv4 : vp_in (x + 4) E.1) (hv5 : vp_in (x + 5) E.1) (nx : ∀ A' B', rAll A' B' → LS7 E 1587 (LL x) (SH, A', B')) : LS7 E 1055 (LL x) (SH, A, B) := by
  refine mSem_wp ML_law rfl aL_law 300 [1587] (fun cl ax hcl hax => ?_)
  refine ⟨hv1, ?_⟩
  refine ⟨hv2, ?_⟩
  refine ⟨hv3, ?_⟩
  refine ⟨hv4, ?_⟩
  refine hcl _ _ _ _ (mCall_mono (fun r1 h1 hm => ?_) (op_stake h))
  obtain ⟨⟨v, rfl⟩, hs, hm⟩ := hm
  obtain ⟨s1, A1, B1⟩ := h1
  have hs : s1 = SH := hs
  subst hs
  refine ⟨hv1, ?_⟩
  refine ⟨hv2, ?_⟩
  refine ⟨hv3, ?_⟩
  refine ⟨hv4, ?_⟩
  refine hcl _ _ _ _ (mCall_mono (fun r2 h2 he => ?_) hm)
  obtain ⟨e1, e2, e3⟩ := he
  subst e1
  obtain ⟨s2, A2, B2⟩ := h2
  have e2 : s2 = SH := e2
  subst e2
  exact ⟨fun _ => hax _ _ _ _ (nx A2 B2 e3), fun q => absurd rfl q⟩
set_option maxRecDepth 1000000 in
theorem la_learnt {E : ME} {A : Nat → Nat → Int32} {B : Nat → Nat → Int64} {x : Int32} (h : rAll A B) (hv1 : vp_in (x + 1) E.1) (hv2 : vp_in (x + 2) E.1) (hv3 : vp_in (x + 3) E.1) (hv4 : vp_in (x + 4) E.1) (hv5 : vp_in (x + 5) E.1) (nx : ∀ A' B', rAll A' B' → LS7 E 1587 (LL x) (SH, A', B')) : LS7 E 1108 (LL x) (SH, A, B) := by
  refine mSem_wp ML_law rfl aL_law 300 [1587] (fun cl ax hcl hax => ?_)
  refine ⟨hv1, ?_⟩
  refine ⟨hv2, ?_⟩
  refine hcl _ _ _ _ (mCall_mono (fun r1 h1 hm => ?_) (op_learnt h))
  obtain ⟨⟨v, rfl⟩, hs, hm⟩ := hm
  obtain ⟨s1, A1, B1⟩ := h1
  have hs : s1 = SH := hs
  subst hs
  refine ⟨hv1, ?_⟩
  refine ⟨hv2, ?_⟩
  refine hcl _ _ _ _ (mCall_mono (fun r2 h2 he => ?_) hm)
  obtain ⟨e1, e2, e3⟩ := he
  subst e1
  obtain ⟨s2, A2, B2⟩ := h2
  have e2 : s2 = SH := e2
  subst e2
  exact ⟨fun _ => hax _ _ _ _ (nx A2 B2 e3), fun q => absurd rfl q⟩
set_option maxRecDepth 1000000 in
theorem la_lost {E : ME} {A : Nat → Nat → Int32} {B : Nat → Nat → Int64} {x : Int32} (h : rAll A B) (hv1 : vp_in (x + 1) E.1) (hv2 : vp_in (x + 2) E.1) (hv3 : vp_in (x + 3) E.1) (hv4 : vp_in (x + 4) E.1) (hv5 : vp_in (x + 5) E.1) (nx : ∀ A' B', rAll A' B' → LS7 E 1587 (LL x) (SH, A', B')) : LS7 E 1141 (LL x) (SH, A, B) := by
  refine mSem_wp ML_law rfl aL_law 300 [1587] (fun cl ax hcl hax => ?_)
  refine ⟨hv1, ?_⟩
  refine ⟨hv2, ?_⟩
  refine hcl _ _ _ _ (mCall_mono (fun r1 h1 hm => ?_) (op_lost h))
  obtain ⟨⟨v, rfl⟩, hs, hm⟩ := hm
  obtain ⟨s1, A1, B1⟩ := h1
  have hs : s1 = SH := hs
  subst hs
  refine ⟨hv1, ?_⟩
  refine ⟨hv2, ?_⟩
  refine hcl _ _ _ _ (mCall_mono (fun r2 h2 he => ?_) hm)
  obtain ⟨e1, e2, e3⟩ := he
  subst e1
  obtain ⟨s2, A2, B2⟩ := h2
  have e2 : s2 = SH := e2
  subst e2
  exact ⟨fun _ => hax _ _ _ _ (nx A2 B2 e3), fun q => absurd rfl q⟩
set_option maxRecDepth 1000000 in
theorem la_feed {E : ME} {A : Nat → Nat → Int32} {B : Nat → Nat → Int64} {x : Int32} (h : rAll A B) (hv1 : vp_in (x + 1) E.1) (hv2 : vp_in (x + 2) E.1) (hv3 : vp_in (x + 3) E.1) (hv4 : vp_in (x + 4) E.1) (hv5 : vp_in (x + 5) E.1) (nx : ∀ A' B', rAll A' B' → LS7 E 1587 (LL x) (SH, A', B')) : LS7 E 1174 (LL x) (SH, A, B) := by
  refine mSem_wp ML_law rfl aL_law 300 [1587] (fun cl ax hcl hax => ?_)
  refine ⟨hv1, ?_⟩
  refine ⟨hv2, ?_⟩
  refine hcl _ _ _ _ (mCall_mono (fun r1 h1 hm => ?_) (op_feed h))
  obtain ⟨⟨v, rfl⟩, hs, hm⟩ := hm
  obtain ⟨s1, A1, B1⟩ := h1
  have hs : s1 = SH := hs
  subst hs
  refine ⟨hv1, ?_⟩
  refine ⟨hv2, ?_⟩
  refine hcl _ _ _ _ (mCall_mono (fun r2 h2 he => ?_) hm)
  obtain ⟨e1, e2, e3⟩ := he
  subst e1
  obtain ⟨s2, A2, B2⟩ := h2
  have e2 : s2 = SH := e2
  subst e2
  exact ⟨fun _ => hax _ _ _ _ (nx A2 B2 e3), fun q => absurd rfl q⟩
set_option maxRecDepth 1000000 in
theorem la_wipe {E : ME} {A : Nat → Nat → Int32} {B : Nat → Nat → Int64} {x : Int32} (h : rAll A B) (hv1 : vp_in (x + 1) E.1) (hv2 : vp_in (x + 2) E.1) (hv3 : vp_in (x + 3) E.1) (hv4 : vp_in (x + 4) E.1) (hv5 : vp_in (x + 5) E.1) (nx : ∀ A' B', rAll A' B' → LS7 E 1587 (LL x) (SH, A', B')) : LS7 E 1207 (LL x) (SH, A, B) := by
  refine mSem_wp ML_law rfl aL_law 300 [1587] (fun cl ax hcl hax => ?_)
  refine hcl _ _ _ _ (mCall_mono (fun r1 h1 hm => ?_) (op_wipe h))
  obtain ⟨⟨v, rfl⟩, hs, hm⟩ := hm
  obtain ⟨s1, A1, B1⟩ := h1
  have hs : s1 = SH := hs
  subst hs
  refine hcl _ _ _ _ (mCall_mono (fun r2 h2 he => ?_) hm)
  obtain ⟨e1, e2, e3⟩ := he
  subst e1
  obtain ⟨s2, A2, B2⟩ := h2
  have e2 : s2 = SH := e2
  subst e2
  exact ⟨fun _ => hax _ _ _ _ (nx A2 B2 e3), fun q => absurd rfl q⟩
set_option maxRecDepth 1000000 in
theorem la_town {E : ME} {A : Nat → Nat → Int32} {B : Nat → Nat → Int64} {x : Int32} (h : rAll A B) (hv1 : vp_in (x + 1) E.1) (hv2 : vp_in (x + 2) E.1) (hv3 : vp_in (x + 3) E.1) (hv4 : vp_in (x + 4) E.1) (hv5 : vp_in (x + 5) E.1) (nx : ∀ A' B', rAll A' B' → LS7 E 1587 (LL x) (SH, A', B')) : LS7 E 1220 (LL x) (SH, A, B) := by
  refine mSem_wp ML_law rfl aL_law 300 [1587] (fun cl ax hcl hax => ?_)
  refine hcl _ _ _ _ (mCall_mono (fun r1 h1 hm => ?_) (op_town h))
  obtain ⟨⟨v, rfl⟩, hs, hm⟩ := hm
  obtain ⟨s1, A1, B1⟩ := h1
  have hs : s1 = SH := hs
  subst hs
  refine hcl _ _ _ _ (mCall_mono (fun r2 h2 he => ?_) hm)
  obtain ⟨e1, e2, e3⟩ := he
  subst e1
  obtain ⟨s2, A2, B2⟩ := h2
  have e2 : s2 = SH := e2
  subst e2
  exact ⟨fun _ => hax _ _ _ _ (nx A2 B2 e3), fun q => absurd rfl q⟩
set_option maxRecDepth 1000000 in
theorem la_sheet {E : ME} {A : Nat → Nat → Int32} {B : Nat → Nat → Int64} {x : Int32} (h : rAll A B) (hv1 : vp_in (x + 1) E.1) (hv2 : vp_in (x + 2) E.1) (hv3 : vp_in (x + 3) E.1) (hv4 : vp_in (x + 4) E.1) (hv5 : vp_in (x + 5) E.1) (nx : ∀ A' B', rAll A' B' → LS7 E 1587 (LL x) (SH, A', B')) : LS7 E 1233 (LL x) (SH, A, B) := by
  refine mSem_wp ML_law rfl aL_law 300 [1587] (fun cl ax hcl hax => ?_)
  refine ⟨hv1, ?_⟩
  refine ⟨hv2, ?_⟩
  refine ⟨hv3, ?_⟩
  refine hcl _ _ _ _ (mCall_mono (fun r1 h1 hm => ?_) (op_sheet h))
  obtain ⟨⟨v, rfl⟩, hs, hm⟩ := hm
  obtain ⟨s1, A1, B1⟩ := h1
  have hs : s1 = SH := hs
  subst hs
  refine ⟨hv1, ?_⟩
  refine ⟨hv2, ?_⟩
  refine ⟨hv3, ?_⟩
  refine hcl _ _ _ _ (mCall_mono (fun r2 h2 he => ?_) hm)
  obtain ⟨e1, e2, e3⟩ := he
  subst e1
  obtain ⟨s2, A2, B2⟩ := h2
  have e2 : s2 = SH := e2
  subst e2
  exact ⟨fun _ => hax _ _ _ _ (nx A2 B2 e3), fun q => absurd rfl q⟩
set_option maxRecDepth 1000000 in
theorem la_write {E : ME} {A : Nat → Nat → Int32} {B : Nat → Nat → Int64} {x : Int32} (h : rAll A B) (hv1 : vp_in (x + 1) E.1) (hv2 : vp_in (x + 2) E.1) (hv3 : vp_in (x + 3) E.1) (hv4 : vp_in (x + 4) E.1) (hv5 : vp_in (x + 5) E.1) (nx : ∀ A' B', rAll A' B' → LS7 E 1587 (LL x) (SH, A', B')) : LS7 E 1276 (LL x) (SH, A, B) := by
  refine mSem_wp ML_law rfl aL_law 300 [1587] (fun cl ax hcl hax => ?_)
  refine ⟨hv1, ?_⟩
  refine ⟨hv2, ?_⟩
  refine ⟨hv3, ?_⟩
  refine ⟨hv4, ?_⟩
  refine hcl _ _ _ _ (mCall_mono (fun r1 h1 hm => ?_) (op_write h))
  obtain ⟨⟨v, rfl⟩, hs, hm⟩ := hm
  obtain ⟨s1, A1, B1⟩ := h1
  have hs : s1 = SH := hs
  subst hs
  refine ⟨hv1, ?_⟩
  refine ⟨hv2, ?_⟩
  refine ⟨hv3, ?_⟩
  refine ⟨hv4, ?_⟩
  refine hcl _ _ _ _ (mCall_mono (fun r2 h2 he => ?_) hm)
  obtain ⟨e1, e2, e3⟩ := he
  subst e1
  obtain ⟨s2, A2, B2⟩ := h2
  have e2 : s2 = SH := e2
  subst e2
  have e : lg_cmp v v = 0 := (lg_cmp_eq v v).mpr rfl
  exact ⟨fun _ => hax _ _ _ _ (nx A2 B2 e3), fun q => absurd e q⟩
set_option maxRecDepth 1000000 in
theorem la_copy {E : ME} {A : Nat → Nat → Int32} {B : Nat → Nat → Int64} {x : Int32} (h : rAll A B) (hv1 : vp_in (x + 1) E.1) (hv2 : vp_in (x + 2) E.1) (hv3 : vp_in (x + 3) E.1) (hv4 : vp_in (x + 4) E.1) (hv5 : vp_in (x + 5) E.1) (nx : ∀ A' B', rAll A' B' → LS7 E 1587 (LL x) (SH, A', B')) : LS7 E 1350 (LL x) (SH, A, B) := by
  refine mSem_wp ML_law rfl aL_law 300 [1587] (fun cl ax hcl hax => ?_)
  refine ⟨hv1, ?_⟩
  refine ⟨hv2, ?_⟩
  refine ⟨hv3, ?_⟩
  refine ⟨hv4, ?_⟩
  refine ⟨hv5, ?_⟩
  refine hcl _ _ _ _ (mCall_mono (fun r1 h1 hm => ?_) (op_copy h))
  obtain ⟨⟨v, rfl⟩, hs, hm⟩ := hm
  obtain ⟨s1, A1, B1⟩ := h1
  have hs : s1 = SH := hs
  subst hs
  refine ⟨hv1, ?_⟩
  refine ⟨hv2, ?_⟩
  refine ⟨hv3, ?_⟩
  refine ⟨hv4, ?_⟩
  refine ⟨hv5, ?_⟩
  refine hcl _ _ _ _ (mCall_mono (fun r2 h2 he => ?_) hm)
  obtain ⟨e1, e2, e3⟩ := he
  subst e1
  obtain ⟨s2, A2, B2⟩ := h2
  have e2 : s2 = SH := e2
  subst e2
  exact ⟨fun _ => hax _ _ _ _ (nx A2 B2 e3), fun q => absurd rfl q⟩
set_option maxRecDepth 1000000 in
theorem la_lays {E : ME} {A : Nat → Nat → Int32} {B : Nat → Nat → Int64} {x : Int32} (h : rAll A B) (hv1 : vp_in (x + 1) E.1) (hv2 : vp_in (x + 2) E.1) (hv3 : vp_in (x + 3) E.1) (hv4 : vp_in (x + 4) E.1) (hv5 : vp_in (x + 5) E.1) (nx : ∀ A' B', rAll A' B' → LS7 E 1587 (LL x) (SH, A', B')) : LS7 E 1413 (LL x) (SH, A, B) := by
  refine mSem_wp ML_law rfl aL_law 300 [1587] (fun cl ax hcl hax => ?_)
  refine ⟨hv1, ?_⟩
  refine hcl _ _ _ _ (mCall_mono (fun r1 h1 hm => ?_) (op_lays h))
  obtain ⟨⟨v, rfl⟩, hs, hm⟩ := hm
  obtain ⟨s1, A1, B1⟩ := h1
  have hs : s1 = SH := hs
  subst hs
  refine ⟨hv1, ?_⟩
  refine hcl _ _ _ _ (mCall_mono (fun r2 h2 he => ?_) hm)
  obtain ⟨e1, e2, e3⟩ := he
  subst e1
  obtain ⟨s2, A2, B2⟩ := h2
  have e2 : s2 = SH := e2
  subst e2
  exact ⟨fun _ => hax _ _ _ _ (nx A2 B2 e3), fun q => absurd rfl q⟩
set_option maxRecDepth 1000000 in
theorem la_map {E : ME} {A : Nat → Nat → Int32} {B : Nat → Nat → Int64} {x : Int32} (h : rAll A B) (hv1 : vp_in (x + 1) E.1) (hv2 : vp_in (x + 2) E.1) (hv3 : vp_in (x + 3) E.1) (hv4 : vp_in (x + 4) E.1) (hv5 : vp_in (x + 5) E.1) (nx : ∀ A' B', rAll A' B' → LS7 E 1587 (LL x) (SH, A', B')) : LS7 E 1436 (LL x) (SH, A, B) := by
  refine mSem_wp ML_law rfl aL_law 300 [1587] (fun cl ax hcl hax => ?_)
  refine ⟨hv1, ?_⟩
  refine ⟨hv2, ?_⟩
  refine hcl _ _ _ _ (mCall_mono (fun r1 h1 hm => ?_) (op_map h))
  obtain ⟨⟨v, rfl⟩, hs, hm⟩ := hm
  obtain ⟨s1, A1, B1⟩ := h1
  have hs : s1 = SH := hs
  subst hs
  refine ⟨hv1, ?_⟩
  refine ⟨hv2, ?_⟩
  refine hcl _ _ _ _ (mCall_mono (fun r2 h2 he => ?_) hm)
  obtain ⟨e1, e2, e3⟩ := he
  subst e1
  obtain ⟨s2, A2, B2⟩ := h2
  have e2 : s2 = SH := e2
  subst e2
  exact ⟨fun _ => hax _ _ _ _ (nx A2 B2 e3), fun q => absurd rfl q⟩
set_option maxRecDepth 1000000 in
theorem la_read {E : ME} {A : Nat → Nat → Int32} {B : Nat → Nat → Int64} {x : Int32} (h : rAll A B) (hv1 : vp_in (x + 1) E.1) (hv2 : vp_in (x + 2) E.1) (hv3 : vp_in (x + 3) E.1) (hv4 : vp_in (x + 4) E.1) (hv5 : vp_in (x + 5) E.1) (nx : ∀ A' B', rAll A' B' → LS7 E 1587 (LL x) (SH, A', B')) : LS7 E 1469 (LL x) (SH, A, B) := by
  refine mSem_wp ML_law rfl aL_law 300 [1587] (fun cl ax hcl hax => ?_)
  refine ⟨hv1, ?_⟩
  refine ⟨hv2, ?_⟩
  refine hcl _ _ _ _ (mCall_mono (fun r1 h1 hm => ?_) (op_read h))
  obtain ⟨⟨v, rfl⟩, hs, hm⟩ := hm
  obtain ⟨s1, A1, B1⟩ := h1
  have hs : s1 = SH := hs
  subst hs
  refine ⟨hv1, ?_⟩
  refine ⟨hv2, ?_⟩
  refine hcl _ _ _ _ (mCall_mono (fun r2 h2 he => ?_) hm)
  obtain ⟨e1, e2, e3⟩ := he
  subst e1
  obtain ⟨s2, A2, B2⟩ := h2
  have e2 : s2 = SH := e2
  subst e2
  exact ⟨fun _ => hax _ _ _ _ (nx A2 B2 e3), fun q => absurd rfl q⟩
set_option maxRecDepth 1000000 in
theorem la_image {E : ME} {A : Nat → Nat → Int32} {B : Nat → Nat → Int64} {x : Int32} (h : rAll A B) (hv1 : vp_in (x + 1) E.1) (hv2 : vp_in (x + 2) E.1) (hv3 : vp_in (x + 3) E.1) (hv4 : vp_in (x + 4) E.1) (hv5 : vp_in (x + 5) E.1) (nx : ∀ A' B', rAll A' B' → LS7 E 1587 (LL x) (SH, A', B')) : LS7 E 1502 (LL x) (SH, A, B) := by
  refine mSem_wp ML_law rfl aL_law 300 [1587] (fun cl ax hcl hax => ?_)
  refine hcl _ _ _ _ (mCall_mono (fun r1 h1 hm => ?_) (op_image h))
  obtain ⟨⟨v, rfl⟩, hs, hm⟩ := hm
  obtain ⟨s1, A1, B1⟩ := h1
  have hs : s1 = SH := hs
  subst hs
  refine hcl _ _ _ _ (mCall_mono (fun r2 h2 he => ?_) hm)
  obtain ⟨e1, e2, e3⟩ := he
  subst e1
  obtain ⟨s2, A2, B2⟩ := h2
  have e2 : s2 = SH := e2
  subst e2
  exact ⟨fun _ => hax _ _ _ _ (nx A2 B2 e3), fun q => absurd rfl q⟩
set_option maxRecDepth 1000000 in
theorem la_undo {E : ME} {A : Nat → Nat → Int32} {B : Nat → Nat → Int64} {x : Int32} (h : rAll A B) (hv1 : vp_in (x + 1) E.1) (hv2 : vp_in (x + 2) E.1) (hv3 : vp_in (x + 3) E.1) (hv4 : vp_in (x + 4) E.1) (hv5 : vp_in (x + 5) E.1) (nx : ∀ A' B', rAll A' B' → LS7 E 1587 (LL x) (SH, A', B')) : LS7 E 1515 (LL x) (SH, A, B) := by
  refine mSem_wp ML_law rfl aL_law 300 [1587] (fun cl ax hcl hax => ?_)
  refine hcl _ _ _ _ (mCall_mono (fun r1 h1 hm => ?_) (op_undo h))
  obtain ⟨⟨v, rfl⟩, hs, hm⟩ := hm
  obtain ⟨s1, A1, B1⟩ := h1
  have hs : s1 = SH := hs
  subst hs
  refine hcl _ _ _ _ (mCall_mono (fun r2 h2 he => ?_) hm)
  obtain ⟨e1, e2, e3⟩ := he
  subst e1
  obtain ⟨s2, A2, B2⟩ := h2
  have e2 : s2 = SH := e2
  subst e2
  exact ⟨fun _ => hax _ _ _ _ (nx A2 B2 e3), fun q => absurd rfl q⟩
set_option maxRecDepth 1000000 in
theorem la_tear {E : ME} {A : Nat → Nat → Int32} {B : Nat → Nat → Int64} {x : Int32} (h : rAll A B) (hv1 : vp_in (x + 1) E.1) (hv2 : vp_in (x + 2) E.1) (hv3 : vp_in (x + 3) E.1) (hv4 : vp_in (x + 4) E.1) (hv5 : vp_in (x + 5) E.1) (nx : ∀ A' B', rAll A' B' → LS7 E 1587 (LL x) (SH, A', B')) : LS7 E 1528 (LL x) (SH, A, B) := by
  refine mSem_wp ML_law rfl aL_law 300 [1587] (fun cl ax hcl hax => ?_)
  refine hcl _ _ _ _ (mCall_mono (fun r1 h1 hm => ?_) (op_tear h))
  obtain ⟨⟨v, rfl⟩, hs, hm⟩ := hm
  obtain ⟨s1, A1, B1⟩ := h1
  have hs : s1 = SH := hs
  subst hs
  refine hcl _ _ _ _ (mCall_mono (fun r2 h2 he => ?_) hm)
  obtain ⟨e1, e2, e3⟩ := he
  subst e1
  obtain ⟨s2, A2, B2⟩ := h2
  have e2 : s2 = SH := e2
  subst e2
  exact ⟨fun _ => hax _ _ _ _ (nx A2 B2 e3), fun q => absurd rfl q⟩
set_option maxRecDepth 1000000 in
theorem la_count {E : ME} {A : Nat → Nat → Int32} {B : Nat → Nat → Int64} {x : Int32} (h : rAll A B) (hv1 : vp_in (x + 1) E.1) (hv2 : vp_in (x + 2) E.1) (hv3 : vp_in (x + 3) E.1) (hv4 : vp_in (x + 4) E.1) (hv5 : vp_in (x + 5) E.1) (nx : ∀ A' B', rAll A' B' → LS7 E 1587 (LL x) (SH, A', B')) : LS7 E 1541 (LL x) (SH, A, B) := by
  refine mSem_wp ML_law rfl aL_law 300 [1587] (fun cl ax hcl hax => ?_)
  refine ⟨hv1, ?_⟩
  refine hcl _ _ _ _ (mCall_mono (fun r1 h1 hm => ?_) (op_count h))
  obtain ⟨⟨v, rfl⟩, hs, hm⟩ := hm
  obtain ⟨s1, A1, B1⟩ := h1
  have hs : s1 = SH := hs
  subst hs
  refine ⟨hv1, ?_⟩
  refine hcl _ _ _ _ (mCall_mono (fun r2 h2 he => ?_) hm)
  obtain ⟨e1, e2, e3⟩ := he
  subst e1
  obtain ⟨s2, A2, B2⟩ := h2
  have e2 : s2 = SH := e2
  subst e2
  exact ⟨fun _ => hax _ _ _ _ (nx A2 B2 e3), fun q => absurd rfl q⟩
set_option maxRecDepth 1000000 in
theorem la_status {E : ME} {A : Nat → Nat → Int32} {B : Nat → Nat → Int64} {x : Int32} (h : rAll A B) (hv1 : vp_in (x + 1) E.1) (hv2 : vp_in (x + 2) E.1) (hv3 : vp_in (x + 3) E.1) (hv4 : vp_in (x + 4) E.1) (hv5 : vp_in (x + 5) E.1) (nx : ∀ A' B', rAll A' B' → LS7 E 1587 (LL x) (SH, A', B')) : LS7 E 1564 (LL x) (SH, A, B) := by
  refine mSem_wp ML_law rfl aL_law 300 [1587] (fun cl ax hcl hax => ?_)
  refine ⟨hv1, ?_⟩
  refine hcl _ _ _ _ (mCall_mono (fun r1 h1 hm => ?_) (op_status h))
  obtain ⟨⟨v, rfl⟩, hs, hm⟩ := hm
  obtain ⟨s1, A1, B1⟩ := h1
  have hs : s1 = SH := hs
  subst hs
  refine ⟨hv1, ?_⟩
  refine hcl _ _ _ _ (mCall_mono (fun r2 h2 he => ?_) hm)
  obtain ⟨e1, e2, e3⟩ := he
  subst e1
  obtain ⟨s2, A2, B2⟩ := h2
  have e2 : s2 = SH := e2
  subst e2
  exact ⟨fun _ => hax _ _ _ _ (nx A2 B2 e3), fun q => absurd rfl q⟩
