/-! THE CONSTRUCTORS -/
def Az1 : Nat → Nat → Int32 := va_up (fun _ _ => 0) 0 (fun _ => 0)
def Bz2 : Nat → Nat → Int64 := va_up (fun _ _ => 0) 0 (fun _ => 0)
def Tz3 : MS := [(13, 8, [none, none, none, none, none, none, none, none])]
def Az4 : Nat → Nat → Int32 := va_up Az1 1 (fun _ => 0)
def Bz5 : Nat → Nat → Int64 := va_up Bz2 1 (fun _ => 0)
def Tz6 : MS := [(13, 8, [none, none, none, none, none, none, none, none]), (12, 4, [none, none, none, none])]
def Az7 : Nat → Nat → Int32 := va_up Az4 2 (fun _ => 0)
def Bz8 : Nat → Nat → Int64 := va_up Bz5 2 (fun _ => 0)
def Tz9 : MS := [(13, 8, [none, none, none, none, none, none, none, none]), (12, 4, [none, none, none, none]), (7, 4, [none, none, none, none])]
def Az10 : Nat → Nat → Int32 := va_up Az7 2 (upd (Az7 2) 0 (2000))
def Az11 : Nat → Nat → Int32 := va_up Az10 2 (upd (Az10 2) 1 (0))
def Az12 : Nat → Nat → Int32 := va_up Az11 2 (upd (Az11 2) 2 (0))
def Az13 : Nat → Nat → Int32 := va_up Az12 3 (fun _ => 0)
def Bz14 : Nat → Nat → Int64 := va_up Bz8 3 (fun _ => 0)
def Tz15 : MS := [(13, 8, [none, none, none, none, none, none, none, none]), (12, 4, [none, none, none, none]), (7, 4, [none, none, none, some 3]), (0, 9, [])]
def Az16 : Nat → Nat → Int32 := va_up Az13 3 (upd (Az13 3) 0 (4 * mn 0 (8 - 0) + 2))
def Az17 : Nat → Nat → Int32 := va_up Az16 3 (upd (Az16 3) 1 (4 * mn 1 (8 - 1) + 2))
def Az18 : Nat → Nat → Int32 := va_up Az17 3 (upd (Az17 3) 2 (4 * mn 2 (8 - 2) + 2))
def Az19 : Nat → Nat → Int32 := va_up Az18 3 (upd (Az18 3) 3 (4 * mn 3 (8 - 3) + 2))
def Az20 : Nat → Nat → Int32 := va_up Az19 3 (upd (Az19 3) 4 (4 * mn 4 (8 - 4) + 2))
def Az21 : Nat → Nat → Int32 := va_up Az20 3 (upd (Az20 3) 5 (4 * mn 5 (8 - 5) + 2))
def Az22 : Nat → Nat → Int32 := va_up Az21 3 (upd (Az21 3) 6 (4 * mn 6 (8 - 6) + 2))
def Az23 : Nat → Nat → Int32 := va_up Az22 3 (upd (Az22 3) 7 (4 * mn 7 (8 - 7) + 2))
def Az24 : Nat → Nat → Int32 := va_up Az23 3 (upd (Az23 3) 8 (4 * mn 8 (8 - 8) + 2))
theorem i_X2_2 {E : ME} {d : Nat} {K : MK} (hK : K none (Tz15, Az24, Bz14)) : mCall E (d + 1) nX2_init [.ref 2] (Tz9, Az7, Bz8) K := by
  refine mCall_sem MX2_init rfl rfl (Or.inr ⟨rfl, rfl⟩) rfl (mSem_wp MX2_init rfl aX2_init 300 [31] (fun cl ax hcl hax => ?_))
  refine ⟨by decide, ?_⟩
  refine hax _ _ _ _ (show mSem E (d + 1) nX2_init (Tz9, Az7, Bz8) 1 9 K 31 [some (.ref 2), some (.int 0)] [] (Tz15, Az13, Bz14) from ?_)
  clear hcl hax
  clear cl ax
  refine mSem_wp MX2_init rfl aX2_init 300 [31] (fun cl ax hcl hax => ?_)
  refine ⟨fun h9 => absurd h9 (by decide), fun _ => ?_⟩
  refine ⟨vp_in_nI (n := 0) (N := 9) (by decide) (by decide), ?_⟩
  refine hax _ _ _ _ (show mSem E (d + 1) nX2_init (Tz9, Az7, Bz8) 1 9 K 31 [some (.ref 2), some (.int 1)] [] (Tz15, Az16, Bz14) from ?_)
  clear hcl hax
  clear cl ax
  refine mSem_wp MX2_init rfl aX2_init 300 [31] (fun cl ax hcl hax => ?_)
  refine ⟨fun h9 => absurd h9 (by decide), fun _ => ?_⟩
  refine ⟨vp_in_nI (n := 1) (N := 9) (by decide) (by decide), ?_⟩
  refine hax _ _ _ _ (show mSem E (d + 1) nX2_init (Tz9, Az7, Bz8) 1 9 K 31 [some (.ref 2), some (.int 2)] [] (Tz15, Az17, Bz14) from ?_)
  clear hcl hax
  clear cl ax
  refine mSem_wp MX2_init rfl aX2_init 300 [31] (fun cl ax hcl hax => ?_)
  refine ⟨fun h9 => absurd h9 (by decide), fun _ => ?_⟩
  refine ⟨vp_in_nI (n := 2) (N := 9) (by decide) (by decide), ?_⟩
  refine hax _ _ _ _ (show mSem E (d + 1) nX2_init (Tz9, Az7, Bz8) 1 9 K 31 [some (.ref 2), some (.int 3)] [] (Tz15, Az18, Bz14) from ?_)
  clear hcl hax
  clear cl ax
  refine mSem_wp MX2_init rfl aX2_init 300 [31] (fun cl ax hcl hax => ?_)
  refine ⟨fun h9 => absurd h9 (by decide), fun _ => ?_⟩
  refine ⟨vp_in_nI (n := 3) (N := 9) (by decide) (by decide), ?_⟩
  refine hax _ _ _ _ (show mSem E (d + 1) nX2_init (Tz9, Az7, Bz8) 1 9 K 31 [some (.ref 2), some (.int 4)] [] (Tz15, Az19, Bz14) from ?_)
  clear hcl hax
  clear cl ax
  refine mSem_wp MX2_init rfl aX2_init 300 [31] (fun cl ax hcl hax => ?_)
  refine ⟨fun h9 => absurd h9 (by decide), fun _ => ?_⟩
  refine ⟨vp_in_nI (n := 4) (N := 9) (by decide) (by decide), ?_⟩
  refine hax _ _ _ _ (show mSem E (d + 1) nX2_init (Tz9, Az7, Bz8) 1 9 K 31 [some (.ref 2), some (.int 5)] [] (Tz15, Az20, Bz14) from ?_)
  clear hcl hax
  clear cl ax
  refine mSem_wp MX2_init rfl aX2_init 300 [31] (fun cl ax hcl hax => ?_)
  refine ⟨fun h9 => absurd h9 (by decide), fun _ => ?_⟩
  refine ⟨vp_in_nI (n := 5) (N := 9) (by decide) (by decide), ?_⟩
  refine hax _ _ _ _ (show mSem E (d + 1) nX2_init (Tz9, Az7, Bz8) 1 9 K 31 [some (.ref 2), some (.int 6)] [] (Tz15, Az21, Bz14) from ?_)
  clear hcl hax
  clear cl ax
  refine mSem_wp MX2_init rfl aX2_init 300 [31] (fun cl ax hcl hax => ?_)
  refine ⟨fun h9 => absurd h9 (by decide), fun _ => ?_⟩
  refine ⟨vp_in_nI (n := 6) (N := 9) (by decide) (by decide), ?_⟩
  refine hax _ _ _ _ (show mSem E (d + 1) nX2_init (Tz9, Az7, Bz8) 1 9 K 31 [some (.ref 2), some (.int 7)] [] (Tz15, Az22, Bz14) from ?_)
  clear hcl hax
  clear cl ax
  refine mSem_wp MX2_init rfl aX2_init 300 [31] (fun cl ax hcl hax => ?_)
  refine ⟨fun h9 => absurd h9 (by decide), fun _ => ?_⟩
  refine ⟨vp_in_nI (n := 7) (N := 9) (by decide) (by decide), ?_⟩
  refine hax _ _ _ _ (show mSem E (d + 1) nX2_init (Tz9, Az7, Bz8) 1 9 K 31 [some (.ref 2), some (.int 8)] [] (Tz15, Az23, Bz14) from ?_)
  clear hcl hax
  clear cl ax
  refine mSem_wp MX2_init rfl aX2_init 300 [31] (fun cl ax hcl hax => ?_)
  refine ⟨fun h9 => absurd h9 (by decide), fun _ => ?_⟩
  refine ⟨vp_in_nI (n := 8) (N := 9) (by decide) (by decide), ?_⟩
  refine hax _ _ _ _ (show mSem E (d + 1) nX2_init (Tz9, Az7, Bz8) 1 9 K 31 [some (.ref 2), some (.int 9)] [] (Tz15, Az24, Bz14) from ?_)
  clear hcl hax
  clear cl ax
  refine mSem_wp MX2_init rfl aX2_init 300 [31] (fun cl ax hcl hax => ?_)
  refine ⟨fun _ => ?_, fun h9 => absurd h9 (by decide)⟩
  exact hK
def Tz25 : MS := [(13, 8, [none, none, none, none, none, none, none, none]), (12, 4, [some 2, none, none, none]), (7, 4, [none, none, none, some 3]), (0, 9, [])]
def Az26 : Nat → Nat → Int32 := va_up Az24 4 (fun _ => 0)
def Bz27 : Nat → Nat → Int64 := va_up Bz14 4 (fun _ => 0)
def Tz28 : MS := [(13, 8, [none, none, none, none, none, none, none, none]), (12, 4, [some 2, none, none, none]), (7, 4, [none, none, none, some 3]), (0, 9, []), (6, 6, [none, none, none, none, none, none])]
def Az29 : Nat → Nat → Int32 := va_up Az26 4 (upd (Az26 4) 0 (0))
def Az30 : Nat → Nat → Int32 := va_up Az29 5 (fun _ => 0)
def Bz31 : Nat → Nat → Int64 := va_up Bz27 5 (fun _ => 0)
def Tz32 : MS := [(13, 8, [none, none, none, none, none, none, none, none]), (12, 4, [some 2, none, none, none]), (7, 4, [none, none, none, some 3]), (0, 9, []), (6, 6, [none, some 5, none, none, none, none]), (0, 12, [])]
def Az33 : Nat → Nat → Int32 := va_up Az30 6 (fun _ => 0)
def Bz34 : Nat → Nat → Int64 := va_up Bz31 6 (fun _ => 0)
def Tz35 : MS := [(13, 8, [none, none, none, none, none, none, none, none]), (12, 4, [some 2, none, none, none]), (7, 4, [none, none, none, some 3]), (0, 9, []), (6, 6, [none, some 5, some 6, none, none, none]), (0, 12, []), (0, 12, [])]
def Az36 : Nat → Nat → Int32 := va_up Az33 7 (fun _ => 0)
def Bz37 : Nat → Nat → Int64 := va_up Bz34 7 (fun _ => 0)
def Tz38 : MS := [(13, 8, [none, none, none, none, none, none, none, none]), (12, 4, [some 2, none, none, none]), (7, 4, [none, none, none, some 3]), (0, 9, []), (6, 6, [none, some 5, some 6, some 7, none, none]), (0, 12, []), (0, 12, []), (0, 12, [])]
def Az39 : Nat → Nat → Int32 := va_up Az36 8 (fun _ => 0)
def Bz40 : Nat → Nat → Int64 := va_up Bz37 8 (fun _ => 0)
def Tz41 : MS := [(13, 8, [none, none, none, none, none, none, none, none]), (12, 4, [some 2, none, none, none]), (7, 4, [none, none, none, some 3]), (0, 9, []), (6, 6, [none, some 5, some 6, some 7, some 8, none]), (0, 12, []), (0, 12, []), (0, 12, []), (0, 12, [])]
def Az42 : Nat → Nat → Int32 := va_up Az39 9 (fun _ => 0)
def Bz43 : Nat → Nat → Int64 := va_up Bz40 9 (fun _ => 0)
def Tz44 : MS := [(13, 8, [none, none, none, none, none, none, none, none]), (12, 4, [some 2, none, none, none]), (7, 4, [none, none, none, some 3]), (0, 9, []), (6, 6, [none, some 5, some 6, some 7, some 8, some 9]), (0, 12, []), (0, 12, []), (0, 12, []), (0, 12, []), (1, 12, [])]
theorem i_X1_4 {E : ME} {d : Nat} {K : MK} (hK : K none (Tz44, Az42, Bz43)) : mCall E (d + 1) nX1_init [.ref 4] (Tz28, Az26, Bz27) K := by
  refine mCall_sem MX1_init rfl rfl (Or.inr ⟨rfl, rfl⟩) rfl (mSem_wp MX1_init rfl aX1_init 300 [17] (fun cl ax hcl hax => ?_))
  refine ⟨by decide, ?_⟩
  refine hax _ _ _ _ (show mSem E (d + 1) nX1_init (Tz28, Az26, Bz27) 5 60 K 17 [some (.ref 4)] [] (Tz32, Az30, Bz31) from ?_)
  clear hcl hax
  clear cl ax
  refine mSem_wp MX1_init rfl aX1_init 300 [25] (fun cl ax hcl hax => ?_)
  refine ⟨by decide, ?_⟩
  refine hax _ _ _ _ (show mSem E (d + 1) nX1_init (Tz28, Az26, Bz27) 5 60 K 25 [some (.ref 4)] [] (Tz35, Az33, Bz34) from ?_)
  clear hcl hax
  clear cl ax
  refine mSem_wp MX1_init rfl aX1_init 300 [33] (fun cl ax hcl hax => ?_)
  refine ⟨by decide, ?_⟩
  refine hax _ _ _ _ (show mSem E (d + 1) nX1_init (Tz28, Az26, Bz27) 5 60 K 33 [some (.ref 4)] [] (Tz38, Az36, Bz37) from ?_)
  clear hcl hax
  clear cl ax
  refine mSem_wp MX1_init rfl aX1_init 300 [41] (fun cl ax hcl hax => ?_)
  refine ⟨by decide, ?_⟩
  refine hax _ _ _ _ (show mSem E (d + 1) nX1_init (Tz28, Az26, Bz27) 5 60 K 41 [some (.ref 4)] [] (Tz41, Az39, Bz40) from ?_)
  clear hcl hax
  clear cl ax
  refine mSem_wp MX1_init rfl aX1_init 300 [] (fun cl ax hcl hax => ?_)
  refine ⟨by decide, ?_⟩
  exact hK
def Tz45 : MS := [(13, 8, [none, none, none, none, none, none, none, none]), (12, 4, [some 2, some 4, none, none]), (7, 4, [none, none, none, some 3]), (0, 9, []), (6, 6, [none, some 5, some 6, some 7, some 8, some 9]), (0, 12, []), (0, 12, []), (0, 12, []), (0, 12, []), (1, 12, [])]
def Az46 : Nat → Nat → Int32 := va_up Az42 10 (fun _ => 0)
def Bz47 : Nat → Nat → Int64 := va_up Bz43 10 (fun _ => 0)
def Tz48 : MS := [(13, 8, [none, none, none, none, none, none, none, none]), (12, 4, [some 2, some 4, none, none]), (7, 4, [none, none, none, some 3]), (0, 9, []), (6, 6, [none, some 5, some 6, some 7, some 8, some 9]), (0, 12, []), (0, 12, []), (0, 12, []), (0, 12, []), (1, 12, []), (5, 3, [none, none, none])]
def Az49 : Nat → Nat → Int32 := va_up Az46 10 (upd (Az46 10) 0 (0))
def Az50 : Nat → Nat → Int32 := va_up Az49 11 (fun _ => 0)
def Bz51 : Nat → Nat → Int64 := va_up Bz47 11 (fun _ => 0)
def Tz52 : MS := [(13, 8, [none, none, none, none, none, none, none, none]), (12, 4, [some 2, some 4, none, none]), (7, 4, [none, none, none, some 3]), (0, 9, []), (6, 6, [none, some 5, some 6, some 7, some 8, some 9]), (0, 12, []), (0, 12, []), (0, 12, []), (0, 12, []), (1, 12, []), (5, 3, [none, some 11, none]), (0, 10, [])]
def Az53 : Nat → Nat → Int32 := va_up Az50 12 (fun _ => 0)
def Bz54 : Nat → Nat → Int64 := va_up Bz51 12 (fun _ => 0)
def Tz55 : MS := [(13, 8, [none, none, none, none, none, none, none, none]), (12, 4, [some 2, some 4, none, none]), (7, 4, [none, none, none, some 3]), (0, 9, []), (6, 6, [none, some 5, some 6, some 7, some 8, some 9]), (0, 12, []), (0, 12, []), (0, 12, []), (0, 12, []), (1, 12, []), (5, 3, [none, some 11, some 12]), (0, 10, []), (0, 10, [])]
theorem i_X0_10 {E : ME} {d : Nat} {K : MK} (hK : K none (Tz55, Az53, Bz54)) : mCall E (d + 1) nX0_init [.ref 10] (Tz48, Az46, Bz47) K := by
  refine mCall_sem MX0_init rfl rfl (Or.inr ⟨rfl, rfl⟩) rfl (mSem_wp MX0_init rfl aX0_init 300 [17] (fun cl ax hcl hax => ?_))
  refine ⟨by decide, ?_⟩
  refine hax _ _ _ _ (show mSem E (d + 1) nX0_init (Tz48, Az46, Bz47) 2 20 K 17 [some (.ref 10)] [] (Tz52, Az50, Bz51) from ?_)
  clear hcl hax
  clear cl ax
  refine mSem_wp MX0_init rfl aX0_init 300 [] (fun cl ax hcl hax => ?_)
  refine ⟨by decide, ?_⟩
  exact hK
def Tz56 : MS := [(13, 8, [none, none, none, none, none, none, none, none]), (12, 4, [some 2, some 4, some 10, none]), (7, 4, [none, none, none, some 3]), (0, 9, []), (6, 6, [none, some 5, some 6, some 7, some 8, some 9]), (0, 12, []), (0, 12, []), (0, 12, []), (0, 12, []), (1, 12, []), (5, 3, [none, some 11, some 12]), (0, 10, []), (0, 10, [])]
def Az57 : Nat → Nat → Int32 := va_up Az53 13 (fun _ => 0)
def Bz58 : Nat → Nat → Int64 := va_up Bz54 13 (fun _ => 0)
def Tz59 : MS := [(13, 8, [none, none, none, none, none, none, none, none]), (12, 4, [some 2, some 4, some 10, none]), (7, 4, [none, none, none, some 3]), (0, 9, []), (6, 6, [none, some 5, some 6, some 7, some 8, some 9]), (0, 12, []), (0, 12, []), (0, 12, []), (0, 12, []), (1, 12, []), (5, 3, [none, some 11, some 12]), (0, 10, []), (0, 10, []), (9, 5, [none, none, none, none, none])]
def Az60 : Nat → Nat → Int32 := va_up Az57 13 (upd (Az57 13) 0 (0))
def Az61 : Nat → Nat → Int32 := va_up Az60 14 (fun _ => 0)
def Bz62 : Nat → Nat → Int64 := va_up Bz58 14 (fun _ => 0)
def Tz63 : MS := [(13, 8, [none, none, none, none, none, none, none, none]), (12, 4, [some 2, some 4, some 10, none]), (7, 4, [none, none, none, some 3]), (0, 9, []), (6, 6, [none, some 5, some 6, some 7, some 8, some 9]), (0, 12, []), (0, 12, []), (0, 12, []), (0, 12, []), (1, 12, []), (5, 3, [none, some 11, some 12]), (0, 10, []), (0, 10, []), (9, 5, [none, some 14, none, none, none]), (0, 10, [])]
def Az64 : Nat → Nat → Int32 := va_up Az61 15 (fun _ => 0)
def Bz65 : Nat → Nat → Int64 := va_up Bz62 15 (fun _ => 0)
def Tz66 : MS := [(13, 8, [none, none, none, none, none, none, none, none]), (12, 4, [some 2, some 4, some 10, none]), (7, 4, [none, none, none, some 3]), (0, 9, []), (6, 6, [none, some 5, some 6, some 7, some 8, some 9]), (0, 12, []), (0, 12, []), (0, 12, []), (0, 12, []), (1, 12, []), (5, 3, [none, some 11, some 12]), (0, 10, []), (0, 10, []), (9, 5, [none, some 14, some 15, none, none]), (0, 10, []), (0, 10, [])]
def Az67 : Nat → Nat → Int32 := va_up Az64 16 (fun _ => 0)
def Bz68 : Nat → Nat → Int64 := va_up Bz65 16 (fun _ => 0)
def Tz69 : MS := [(13, 8, [none, none, none, none, none, none, none, none]), (12, 4, [some 2, some 4, some 10, none]), (7, 4, [none, none, none, some 3]), (0, 9, []), (6, 6, [none, some 5, some 6, some 7, some 8, some 9]), (0, 12, []), (0, 12, []), (0, 12, []), (0, 12, []), (1, 12, []), (5, 3, [none, some 11, some 12]), (0, 10, []), (0, 10, []), (9, 5, [none, some 14, some 15, some 16, none]), (0, 10, []), (0, 10, []), (0, 10, [])]
def Az70 : Nat → Nat → Int32 := va_up Az67 17 (fun _ => 0)
def Bz71 : Nat → Nat → Int64 := va_up Bz68 17 (fun _ => 0)
def Tz72 : MS := [(13, 8, [none, none, none, none, none, none, none, none]), (12, 4, [some 2, some 4, some 10, none]), (7, 4, [none, none, none, some 3]), (0, 9, []), (6, 6, [none, some 5, some 6, some 7, some 8, some 9]), (0, 12, []), (0, 12, []), (0, 12, []), (0, 12, []), (1, 12, []), (5, 3, [none, some 11, some 12]), (0, 10, []), (0, 10, []), (9, 5, [none, some 14, some 15, some 16, some 17]), (0, 10, []), (0, 10, []), (0, 10, []), (0, 10, [])]
theorem i_X4_13 {E : ME} {d : Nat} {K : MK} (hK : K none (Tz72, Az70, Bz71)) : mCall E (d + 1) nX4_init [.ref 13] (Tz59, Az57, Bz58) K := by
  refine mCall_sem MX4_init rfl rfl (Or.inr ⟨rfl, rfl⟩) rfl (mSem_wp MX4_init rfl aX4_init 300 [17] (fun cl ax hcl hax => ?_))
  refine ⟨by decide, ?_⟩
  refine hax _ _ _ _ (show mSem E (d + 1) nX4_init (Tz59, Az57, Bz58) 4 40 K 17 [some (.ref 13)] [] (Tz63, Az61, Bz62) from ?_)
  clear hcl hax
  clear cl ax
  refine mSem_wp MX4_init rfl aX4_init 300 [25] (fun cl ax hcl hax => ?_)
  refine ⟨by decide, ?_⟩
  refine hax _ _ _ _ (show mSem E (d + 1) nX4_init (Tz59, Az57, Bz58) 4 40 K 25 [some (.ref 13)] [] (Tz66, Az64, Bz65) from ?_)
  clear hcl hax
  clear cl ax
  refine mSem_wp MX4_init rfl aX4_init 300 [33] (fun cl ax hcl hax => ?_)
  refine ⟨by decide, ?_⟩
  refine hax _ _ _ _ (show mSem E (d + 1) nX4_init (Tz59, Az57, Bz58) 4 40 K 33 [some (.ref 13)] [] (Tz69, Az67, Bz68) from ?_)
  clear hcl hax
  clear cl ax
  refine mSem_wp MX4_init rfl aX4_init 300 [] (fun cl ax hcl hax => ?_)
  refine ⟨by decide, ?_⟩
  exact hK
def Tz73 : MS := [(13, 8, [none, none, none, none, none, none, none, none]), (12, 4, [some 2, some 4, some 10, some 13]), (7, 4, [none, none, none, some 3]), (0, 9, []), (6, 6, [none, some 5, some 6, some 7, some 8, some 9]), (0, 12, []), (0, 12, []), (0, 12, []), (0, 12, []), (1, 12, []), (5, 3, [none, some 11, some 12]), (0, 10, []), (0, 10, []), (9, 5, [none, some 14, some 15, some 16, some 17]), (0, 10, []), (0, 10, []), (0, 10, []), (0, 10, [])]
theorem i_X7_1 {E : ME} {d : Nat} {K : MK} (hK : K none (Tz73, Az70, Bz71)) : mCall E (d + 2) nX7_init [.ref 1] (Tz6, Az4, Bz5) K := by
  refine mCall_sem MX7_init rfl rfl (Or.inr ⟨rfl, rfl⟩) rfl (mSem_wp MX7_init rfl aX7_init 300 [15] (fun cl ax hcl hax => ?_))
  refine hcl _ _ _ _ (i_X2_2 ?_)
  refine hax _ _ _ _ (show mSem E (d + 2) nX7_init (Tz6, Az4, Bz5) 16 147 K 15 [some (.ref 1)] [] (Tz25, Az24, Bz14) from ?_)
  clear hcl hax
  clear cl ax
  refine mSem_wp MX7_init rfl aX7_init 300 [26] (fun cl ax hcl hax => ?_)
  refine hcl _ _ _ _ (i_X1_4 ?_)
  refine hax _ _ _ _ (show mSem E (d + 2) nX7_init (Tz6, Az4, Bz5) 16 147 K 26 [some (.ref 1)] [] (Tz45, Az42, Bz43) from ?_)
  clear hcl hax
  clear cl ax
  refine mSem_wp MX7_init rfl aX7_init 300 [37] (fun cl ax hcl hax => ?_)
  refine hcl _ _ _ _ (i_X0_10 ?_)
  refine hax _ _ _ _ (show mSem E (d + 2) nX7_init (Tz6, Az4, Bz5) 16 147 K 37 [some (.ref 1)] [] (Tz56, Az53, Bz54) from ?_)
  clear hcl hax
  clear cl ax
  refine mSem_wp MX7_init rfl aX7_init 300 [48] (fun cl ax hcl hax => ?_)
  refine hcl _ _ _ _ (i_X4_13 ?_)
  refine hax _ _ _ _ (show mSem E (d + 2) nX7_init (Tz6, Az4, Bz5) 16 147 K 48 [some (.ref 1)] [] (Tz73, Az70, Bz71) from ?_)
  clear hcl hax
  clear cl ax
  refine mSem_wp MX7_init rfl aX7_init 300 [] (fun cl ax hcl hax => ?_)
  exact hK
def Tz74 : MS := [(13, 8, [some 1, none, none, none, none, none, none, none]), (12, 4, [some 2, some 4, some 10, some 13]), (7, 4, [none, none, none, some 3]), (0, 9, []), (6, 6, [none, some 5, some 6, some 7, some 8, some 9]), (0, 12, []), (0, 12, []), (0, 12, []), (0, 12, []), (1, 12, []), (5, 3, [none, some 11, some 12]), (0, 10, []), (0, 10, []), (9, 5, [none, some 14, some 15, some 16, some 17]), (0, 10, []), (0, 10, []), (0, 10, []), (0, 10, [])]
def Az75 : Nat → Nat → Int32 := va_up Az70 18 (fun _ => 0)
def Bz76 : Nat → Nat → Int64 := va_up Bz71 18 (fun _ => 0)
def Tz77 : MS := [(13, 8, [some 1, none, none, none, none, none, none, none]), (12, 4, [some 2, some 4, some 10, some 13]), (7, 4, [none, none, none, some 3]), (0, 9, []), (6, 6, [none, some 5, some 6, some 7, some 8, some 9]), (0, 12, []), (0, 12, []), (0, 12, []), (0, 12, []), (1, 12, []), (5, 3, [none, some 11, some 12]), (0, 10, []), (0, 10, []), (9, 5, [none, some 14, some 15, some 16, some 17]), (0, 10, []), (0, 10, []), (0, 10, []), (0, 10, []), (12, 4, [none, none, none, none])]
def Az78 : Nat → Nat → Int32 := va_up Az75 19 (fun _ => 0)
def Bz79 : Nat → Nat → Int64 := va_up Bz76 19 (fun _ => 0)
def Tz80 : MS := [(13, 8, [some 1, none, none, none, none, none, none, none]), (12, 4, [some 2, some 4, some 10, some 13]), (7, 4, [none, none, none, some 3]), (0, 9, []), (6, 6, [none, some 5, some 6, some 7, some 8, some 9]), (0, 12, []), (0, 12, []), (0, 12, []), (0, 12, []), (1, 12, []), (5, 3, [none, some 11, some 12]), (0, 10, []), (0, 10, []), (9, 5, [none, some 14, some 15, some 16, some 17]), (0, 10, []), (0, 10, []), (0, 10, []), (0, 10, []), (12, 4, [none, none, none, none]), (7, 4, [none, none, none, none])]
def Az81 : Nat → Nat → Int32 := va_up Az78 19 (upd (Az78 19) 0 (2000))
def Az82 : Nat → Nat → Int32 := va_up Az81 19 (upd (Az81 19) 1 (0))
def Az83 : Nat → Nat → Int32 := va_up Az82 19 (upd (Az82 19) 2 (0))
def Az84 : Nat → Nat → Int32 := va_up Az83 20 (fun _ => 0)
def Bz85 : Nat → Nat → Int64 := va_up Bz79 20 (fun _ => 0)
def Tz86 : MS := [(13, 8, [some 1, none, none, none, none, none, none, none]), (12, 4, [some 2, some 4, some 10, some 13]), (7, 4, [none, none, none, some 3]), (0, 9, []), (6, 6, [none, some 5, some 6, some 7, some 8, some 9]), (0, 12, []), (0, 12, []), (0, 12, []), (0, 12, []), (1, 12, []), (5, 3, [none, some 11, some 12]), (0, 10, []), (0, 10, []), (9, 5, [none, some 14, some 15, some 16, some 17]), (0, 10, []), (0, 10, []), (0, 10, []), (0, 10, []), (12, 4, [none, none, none, none]), (7, 4, [none, none, none, some 20]), (0, 9, [])]
def Az87 : Nat → Nat → Int32 := va_up Az84 20 (upd (Az84 20) 0 (4 * mn 0 (8 - 0) + 2))
def Az88 : Nat → Nat → Int32 := va_up Az87 20 (upd (Az87 20) 1 (4 * mn 1 (8 - 1) + 2))
def Az89 : Nat → Nat → Int32 := va_up Az88 20 (upd (Az88 20) 2 (4 * mn 2 (8 - 2) + 2))
def Az90 : Nat → Nat → Int32 := va_up Az89 20 (upd (Az89 20) 3 (4 * mn 3 (8 - 3) + 2))
def Az91 : Nat → Nat → Int32 := va_up Az90 20 (upd (Az90 20) 4 (4 * mn 4 (8 - 4) + 2))
def Az92 : Nat → Nat → Int32 := va_up Az91 20 (upd (Az91 20) 5 (4 * mn 5 (8 - 5) + 2))
def Az93 : Nat → Nat → Int32 := va_up Az92 20 (upd (Az92 20) 6 (4 * mn 6 (8 - 6) + 2))
def Az94 : Nat → Nat → Int32 := va_up Az93 20 (upd (Az93 20) 7 (4 * mn 7 (8 - 7) + 2))
def Az95 : Nat → Nat → Int32 := va_up Az94 20 (upd (Az94 20) 8 (4 * mn 8 (8 - 8) + 2))
theorem i_X2_19 {E : ME} {d : Nat} {K : MK} (hK : K none (Tz86, Az95, Bz85)) : mCall E (d + 1) nX2_init [.ref 19] (Tz80, Az78, Bz79) K := by
  refine mCall_sem MX2_init rfl rfl (Or.inr ⟨rfl, rfl⟩) rfl (mSem_wp MX2_init rfl aX2_init 300 [31] (fun cl ax hcl hax => ?_))
  refine ⟨by decide, ?_⟩
  refine hax _ _ _ _ (show mSem E (d + 1) nX2_init (Tz80, Az78, Bz79) 1 9 K 31 [some (.ref 19), some (.int 0)] [] (Tz86, Az84, Bz85) from ?_)
  clear hcl hax
  clear cl ax
  refine mSem_wp MX2_init rfl aX2_init 300 [31] (fun cl ax hcl hax => ?_)
  refine ⟨fun h9 => absurd h9 (by decide), fun _ => ?_⟩
  refine ⟨vp_in_nI (n := 0) (N := 9) (by decide) (by decide), ?_⟩
  refine hax _ _ _ _ (show mSem E (d + 1) nX2_init (Tz80, Az78, Bz79) 1 9 K 31 [some (.ref 19), some (.int 1)] [] (Tz86, Az87, Bz85) from ?_)
  clear hcl hax
  clear cl ax
  refine mSem_wp MX2_init rfl aX2_init 300 [31] (fun cl ax hcl hax => ?_)
  refine ⟨fun h9 => absurd h9 (by decide), fun _ => ?_⟩
  refine ⟨vp_in_nI (n := 1) (N := 9) (by decide) (by decide), ?_⟩
  refine hax _ _ _ _ (show mSem E (d + 1) nX2_init (Tz80, Az78, Bz79) 1 9 K 31 [some (.ref 19), some (.int 2)] [] (Tz86, Az88, Bz85) from ?_)
  clear hcl hax
  clear cl ax
  refine mSem_wp MX2_init rfl aX2_init 300 [31] (fun cl ax hcl hax => ?_)
  refine ⟨fun h9 => absurd h9 (by decide), fun _ => ?_⟩
  refine ⟨vp_in_nI (n := 2) (N := 9) (by decide) (by decide), ?_⟩
  refine hax _ _ _ _ (show mSem E (d + 1) nX2_init (Tz80, Az78, Bz79) 1 9 K 31 [some (.ref 19), some (.int 3)] [] (Tz86, Az89, Bz85) from ?_)
  clear hcl hax
  clear cl ax
  refine mSem_wp MX2_init rfl aX2_init 300 [31] (fun cl ax hcl hax => ?_)
  refine ⟨fun h9 => absurd h9 (by decide), fun _ => ?_⟩
  refine ⟨vp_in_nI (n := 3) (N := 9) (by decide) (by decide), ?_⟩
  refine hax _ _ _ _ (show mSem E (d + 1) nX2_init (Tz80, Az78, Bz79) 1 9 K 31 [some (.ref 19), some (.int 4)] [] (Tz86, Az90, Bz85) from ?_)
  clear hcl hax
  clear cl ax
  refine mSem_wp MX2_init rfl aX2_init 300 [31] (fun cl ax hcl hax => ?_)
  refine ⟨fun h9 => absurd h9 (by decide), fun _ => ?_⟩
  refine ⟨vp_in_nI (n := 4) (N := 9) (by decide) (by decide), ?_⟩
  refine hax _ _ _ _ (show mSem E (d + 1) nX2_init (Tz80, Az78, Bz79) 1 9 K 31 [some (.ref 19), some (.int 5)] [] (Tz86, Az91, Bz85) from ?_)
  clear hcl hax
  clear cl ax
  refine mSem_wp MX2_init rfl aX2_init 300 [31] (fun cl ax hcl hax => ?_)
  refine ⟨fun h9 => absurd h9 (by decide), fun _ => ?_⟩
  refine ⟨vp_in_nI (n := 5) (N := 9) (by decide) (by decide), ?_⟩
  refine hax _ _ _ _ (show mSem E (d + 1) nX2_init (Tz80, Az78, Bz79) 1 9 K 31 [some (.ref 19), some (.int 6)] [] (Tz86, Az92, Bz85) from ?_)
  clear hcl hax
  clear cl ax
  refine mSem_wp MX2_init rfl aX2_init 300 [31] (fun cl ax hcl hax => ?_)
  refine ⟨fun h9 => absurd h9 (by decide), fun _ => ?_⟩
  refine ⟨vp_in_nI (n := 6) (N := 9) (by decide) (by decide), ?_⟩
  refine hax _ _ _ _ (show mSem E (d + 1) nX2_init (Tz80, Az78, Bz79) 1 9 K 31 [some (.ref 19), some (.int 7)] [] (Tz86, Az93, Bz85) from ?_)
  clear hcl hax
  clear cl ax
  refine mSem_wp MX2_init rfl aX2_init 300 [31] (fun cl ax hcl hax => ?_)
  refine ⟨fun h9 => absurd h9 (by decide), fun _ => ?_⟩
  refine ⟨vp_in_nI (n := 7) (N := 9) (by decide) (by decide), ?_⟩
  refine hax _ _ _ _ (show mSem E (d + 1) nX2_init (Tz80, Az78, Bz79) 1 9 K 31 [some (.ref 19), some (.int 8)] [] (Tz86, Az94, Bz85) from ?_)
  clear hcl hax
  clear cl ax
  refine mSem_wp MX2_init rfl aX2_init 300 [31] (fun cl ax hcl hax => ?_)
  refine ⟨fun h9 => absurd h9 (by decide), fun _ => ?_⟩
  refine ⟨vp_in_nI (n := 8) (N := 9) (by decide) (by decide), ?_⟩
  refine hax _ _ _ _ (show mSem E (d + 1) nX2_init (Tz80, Az78, Bz79) 1 9 K 31 [some (.ref 19), some (.int 9)] [] (Tz86, Az95, Bz85) from ?_)
  clear hcl hax
  clear cl ax
  refine mSem_wp MX2_init rfl aX2_init 300 [31] (fun cl ax hcl hax => ?_)
  refine ⟨fun _ => ?_, fun h9 => absurd h9 (by decide)⟩
  exact hK
def Tz96 : MS := [(13, 8, [some 1, none, none, none, none, none, none, none]), (12, 4, [some 2, some 4, some 10, some 13]), (7, 4, [none, none, none, some 3]), (0, 9, []), (6, 6, [none, some 5, some 6, some 7, some 8, some 9]), (0, 12, []), (0, 12, []), (0, 12, []), (0, 12, []), (1, 12, []), (5, 3, [none, some 11, some 12]), (0, 10, []), (0, 10, []), (9, 5, [none, some 14, some 15, some 16, some 17]), (0, 10, []), (0, 10, []), (0, 10, []), (0, 10, []), (12, 4, [some 19, none, none, none]), (7, 4, [none, none, none, some 20]), (0, 9, [])]
def Az97 : Nat → Nat → Int32 := va_up Az95 21 (fun _ => 0)
def Bz98 : Nat → Nat → Int64 := va_up Bz85 21 (fun _ => 0)
def Tz99 : MS := [(13, 8, [some 1, none, none, none, none, none, none, none]), (12, 4, [some 2, some 4, some 10, some 13]), (7, 4, [none, none, none, some 3]), (0, 9, []), (6, 6, [none, some 5, some 6, some 7, some 8, some 9]), (0, 12, []), (0, 12, []), (0, 12, []), (0, 12, []), (1, 12, []), (5, 3, [none, some 11, some 12]), (0, 10, []), (0, 10, []), (9, 5, [none, some 14, some 15, some 16, some 17]), (0, 10, []), (0, 10, []), (0, 10, []), (0, 10, []), (12, 4, [some 19, none, none, none]), (7, 4, [none, none, none, some 20]), (0, 9, []), (6, 6, [none, none, none, none, none, none])]
def Az100 : Nat → Nat → Int32 := va_up Az97 21 (upd (Az97 21) 0 (0))
def Az101 : Nat → Nat → Int32 := va_up Az100 22 (fun _ => 0)
def Bz102 : Nat → Nat → Int64 := va_up Bz98 22 (fun _ => 0)
def Tz103 : MS := [(13, 8, [some 1, none, none, none, none, none, none, none]), (12, 4, [some 2, some 4, some 10, some 13]), (7, 4, [none, none, none, some 3]), (0, 9, []), (6, 6, [none, some 5, some 6, some 7, some 8, some 9]), (0, 12, []), (0, 12, []), (0, 12, []), (0, 12, []), (1, 12, []), (5, 3, [none, some 11, some 12]), (0, 10, []), (0, 10, []), (9, 5, [none, some 14, some 15, some 16, some 17]), (0, 10, []), (0, 10, []), (0, 10, []), (0, 10, []), (12, 4, [some 19, none, none, none]), (7, 4, [none, none, none, some 20]), (0, 9, []), (6, 6, [none, some 22, none, none, none, none]), (0, 12, [])]
def Az104 : Nat → Nat → Int32 := va_up Az101 23 (fun _ => 0)
def Bz105 : Nat → Nat → Int64 := va_up Bz102 23 (fun _ => 0)
def Tz106 : MS := [(13, 8, [some 1, none, none, none, none, none, none, none]), (12, 4, [some 2, some 4, some 10, some 13]), (7, 4, [none, none, none, some 3]), (0, 9, []), (6, 6, [none, some 5, some 6, some 7, some 8, some 9]), (0, 12, []), (0, 12, []), (0, 12, []), (0, 12, []), (1, 12, []), (5, 3, [none, some 11, some 12]), (0, 10, []), (0, 10, []), (9, 5, [none, some 14, some 15, some 16, some 17]), (0, 10, []), (0, 10, []), (0, 10, []), (0, 10, []), (12, 4, [some 19, none, none, none]), (7, 4, [none, none, none, some 20]), (0, 9, []), (6, 6, [none, some 22, some 23, none, none, none]), (0, 12, []), (0, 12, [])]
def Az107 : Nat → Nat → Int32 := va_up Az104 24 (fun _ => 0)
def Bz108 : Nat → Nat → Int64 := va_up Bz105 24 (fun _ => 0)
def Tz109 : MS := [(13, 8, [some 1, none, none, none, none, none, none, none]), (12, 4, [some 2, some 4, some 10, some 13]), (7, 4, [none, none, none, some 3]), (0, 9, []), (6, 6, [none, some 5, some 6, some 7, some 8, some 9]), (0, 12, []), (0, 12, []), (0, 12, []), (0, 12, []), (1, 12, []), (5, 3, [none, some 11, some 12]), (0, 10, []), (0, 10, []), (9, 5, [none, some 14, some 15, some 16, some 17]), (0, 10, []), (0, 10, []), (0, 10, []), (0, 10, []), (12, 4, [some 19, none, none, none]), (7, 4, [none, none, none, some 20]), (0, 9, []), (6, 6, [none, some 22, some 23, some 24, none, none]), (0, 12, []), (0, 12, []), (0, 12, [])]
def Az110 : Nat → Nat → Int32 := va_up Az107 25 (fun _ => 0)
def Bz111 : Nat → Nat → Int64 := va_up Bz108 25 (fun _ => 0)
def Tz112 : MS := [(13, 8, [some 1, none, none, none, none, none, none, none]), (12, 4, [some 2, some 4, some 10, some 13]), (7, 4, [none, none, none, some 3]), (0, 9, []), (6, 6, [none, some 5, some 6, some 7, some 8, some 9]), (0, 12, []), (0, 12, []), (0, 12, []), (0, 12, []), (1, 12, []), (5, 3, [none, some 11, some 12]), (0, 10, []), (0, 10, []), (9, 5, [none, some 14, some 15, some 16, some 17]), (0, 10, []), (0, 10, []), (0, 10, []), (0, 10, []), (12, 4, [some 19, none, none, none]), (7, 4, [none, none, none, some 20]), (0, 9, []), (6, 6, [none, some 22, some 23, some 24, some 25, none]), (0, 12, []), (0, 12, []), (0, 12, []), (0, 12, [])]
def Az113 : Nat → Nat → Int32 := va_up Az110 26 (fun _ => 0)
def Bz114 : Nat → Nat → Int64 := va_up Bz111 26 (fun _ => 0)
def Tz115 : MS := [(13, 8, [some 1, none, none, none, none, none, none, none]), (12, 4, [some 2, some 4, some 10, some 13]), (7, 4, [none, none, none, some 3]), (0, 9, []), (6, 6, [none, some 5, some 6, some 7, some 8, some 9]), (0, 12, []), (0, 12, []), (0, 12, []), (0, 12, []), (1, 12, []), (5, 3, [none, some 11, some 12]), (0, 10, []), (0, 10, []), (9, 5, [none, some 14, some 15, some 16, some 17]), (0, 10, []), (0, 10, []), (0, 10, []), (0, 10, []), (12, 4, [some 19, none, none, none]), (7, 4, [none, none, none, some 20]), (0, 9, []), (6, 6, [none, some 22, some 23, some 24, some 25, some 26]), (0, 12, []), (0, 12, []), (0, 12, []), (0, 12, []), (1, 12, [])]
theorem i_X1_21 {E : ME} {d : Nat} {K : MK} (hK : K none (Tz115, Az113, Bz114)) : mCall E (d + 1) nX1_init [.ref 21] (Tz99, Az97, Bz98) K := by
  refine mCall_sem MX1_init rfl rfl (Or.inr ⟨rfl, rfl⟩) rfl (mSem_wp MX1_init rfl aX1_init 300 [17] (fun cl ax hcl hax => ?_))
  refine ⟨by decide, ?_⟩
  refine hax _ _ _ _ (show mSem E (d + 1) nX1_init (Tz99, Az97, Bz98) 5 60 K 17 [some (.ref 21)] [] (Tz103, Az101, Bz102) from ?_)
  clear hcl hax
  clear cl ax
  refine mSem_wp MX1_init rfl aX1_init 300 [25] (fun cl ax hcl hax => ?_)
  refine ⟨by decide, ?_⟩
  refine hax _ _ _ _ (show mSem E (d + 1) nX1_init (Tz99, Az97, Bz98) 5 60 K 25 [some (.ref 21)] [] (Tz106, Az104, Bz105) from ?_)
  clear hcl hax
  clear cl ax
  refine mSem_wp MX1_init rfl aX1_init 300 [33] (fun cl ax hcl hax => ?_)
  refine ⟨by decide, ?_⟩
  refine hax _ _ _ _ (show mSem E (d + 1) nX1_init (Tz99, Az97, Bz98) 5 60 K 33 [some (.ref 21)] [] (Tz109, Az107, Bz108) from ?_)
  clear hcl hax
  clear cl ax
  refine mSem_wp MX1_init rfl aX1_init 300 [41] (fun cl ax hcl hax => ?_)
  refine ⟨by decide, ?_⟩
  refine hax _ _ _ _ (show mSem E (d + 1) nX1_init (Tz99, Az97, Bz98) 5 60 K 41 [some (.ref 21)] [] (Tz112, Az110, Bz111) from ?_)
  clear hcl hax
  clear cl ax
  refine mSem_wp MX1_init rfl aX1_init 300 [] (fun cl ax hcl hax => ?_)
  refine ⟨by decide, ?_⟩
  exact hK
def Tz116 : MS := [(13, 8, [some 1, none, none, none, none, none, none, none]), (12, 4, [some 2, some 4, some 10, some 13]), (7, 4, [none, none, none, some 3]), (0, 9, []), (6, 6, [none, some 5, some 6, some 7, some 8, some 9]), (0, 12, []), (0, 12, []), (0, 12, []), (0, 12, []), (1, 12, []), (5, 3, [none, some 11, some 12]), (0, 10, []), (0, 10, []), (9, 5, [none, some 14, some 15, some 16, some 17]), (0, 10, []), (0, 10, []), (0, 10, []), (0, 10, []), (12, 4, [some 19, some 21, none, none]), (7, 4, [none, none, none, some 20]), (0, 9, []), (6, 6, [none, some 22, some 23, some 24, some 25, some 26]), (0, 12, []), (0, 12, []), (0, 12, []), (0, 12, []), (1, 12, [])]
def Az117 : Nat → Nat → Int32 := va_up Az113 27 (fun _ => 0)
def Bz118 : Nat → Nat → Int64 := va_up Bz114 27 (fun _ => 0)
def Tz119 : MS := [(13, 8, [some 1, none, none, none, none, none, none, none]), (12, 4, [some 2, some 4, some 10, some 13]), (7, 4, [none, none, none, some 3]), (0, 9, []), (6, 6, [none, some 5, some 6, some 7, some 8, some 9]), (0, 12, []), (0, 12, []), (0, 12, []), (0, 12, []), (1, 12, []), (5, 3, [none, some 11, some 12]), (0, 10, []), (0, 10, []), (9, 5, [none, some 14, some 15, some 16, some 17]), (0, 10, []), (0, 10, []), (0, 10, []), (0, 10, []), (12, 4, [some 19, some 21, none, none]), (7, 4, [none, none, none, some 20]), (0, 9, []), (6, 6, [none, some 22, some 23, some 24, some 25, some 26]), (0, 12, []), (0, 12, []), (0, 12, []), (0, 12, []), (1, 12, []), (5, 3, [none, none, none])]
def Az120 : Nat → Nat → Int32 := va_up Az117 27 (upd (Az117 27) 0 (0))
def Az121 : Nat → Nat → Int32 := va_up Az120 28 (fun _ => 0)
def Bz122 : Nat → Nat → Int64 := va_up Bz118 28 (fun _ => 0)
def Tz123 : MS := [(13, 8, [some 1, none, none, none, none, none, none, none]), (12, 4, [some 2, some 4, some 10, some 13]), (7, 4, [none, none, none, some 3]), (0, 9, []), (6, 6, [none, some 5, some 6, some 7, some 8, some 9]), (0, 12, []), (0, 12, []), (0, 12, []), (0, 12, []), (1, 12, []), (5, 3, [none, some 11, some 12]), (0, 10, []), (0, 10, []), (9, 5, [none, some 14, some 15, some 16, some 17]), (0, 10, []), (0, 10, []), (0, 10, []), (0, 10, []), (12, 4, [some 19, some 21, none, none]), (7, 4, [none, none, none, some 20]), (0, 9, []), (6, 6, [none, some 22, some 23, some 24, some 25, some 26]), (0, 12, []), (0, 12, []), (0, 12, []), (0, 12, []), (1, 12, []), (5, 3, [none, some 28, none]), (0, 10, [])]
def Az124 : Nat → Nat → Int32 := va_up Az121 29 (fun _ => 0)
def Bz125 : Nat → Nat → Int64 := va_up Bz122 29 (fun _ => 0)
def Tz126 : MS := [(13, 8, [some 1, none, none, none, none, none, none, none]), (12, 4, [some 2, some 4, some 10, some 13]), (7, 4, [none, none, none, some 3]), (0, 9, []), (6, 6, [none, some 5, some 6, some 7, some 8, some 9]), (0, 12, []), (0, 12, []), (0, 12, []), (0, 12, []), (1, 12, []), (5, 3, [none, some 11, some 12]), (0, 10, []), (0, 10, []), (9, 5, [none, some 14, some 15, some 16, some 17]), (0, 10, []), (0, 10, []), (0, 10, []), (0, 10, []), (12, 4, [some 19, some 21, none, none]), (7, 4, [none, none, none, some 20]), (0, 9, []), (6, 6, [none, some 22, some 23, some 24, some 25, some 26]), (0, 12, []), (0, 12, []), (0, 12, []), (0, 12, []), (1, 12, []), (5, 3, [none, some 28, some 29]), (0, 10, []), (0, 10, [])]
theorem i_X0_27 {E : ME} {d : Nat} {K : MK} (hK : K none (Tz126, Az124, Bz125)) : mCall E (d + 1) nX0_init [.ref 27] (Tz119, Az117, Bz118) K := by
  refine mCall_sem MX0_init rfl rfl (Or.inr ⟨rfl, rfl⟩) rfl (mSem_wp MX0_init rfl aX0_init 300 [17] (fun cl ax hcl hax => ?_))
  refine ⟨by decide, ?_⟩
  refine hax _ _ _ _ (show mSem E (d + 1) nX0_init (Tz119, Az117, Bz118) 2 20 K 17 [some (.ref 27)] [] (Tz123, Az121, Bz122) from ?_)
  clear hcl hax
  clear cl ax
  refine mSem_wp MX0_init rfl aX0_init 300 [] (fun cl ax hcl hax => ?_)
  refine ⟨by decide, ?_⟩
  exact hK
def Tz127 : MS := [(13, 8, [some 1, none, none, none, none, none, none, none]), (12, 4, [some 2, some 4, some 10, some 13]), (7, 4, [none, none, none, some 3]), (0, 9, []), (6, 6, [none, some 5, some 6, some 7, some 8, some 9]), (0, 12, []), (0, 12, []), (0, 12, []), (0, 12, []), (1, 12, []), (5, 3, [none, some 11, some 12]), (0, 10, []), (0, 10, []), (9, 5, [none, some 14, some 15, some 16, some 17]), (0, 10, []), (0, 10, []), (0, 10, []), (0, 10, []), (12, 4, [some 19, some 21, some 27, none]), (7, 4, [none, none, none, some 20]), (0, 9, []), (6, 6, [none, some 22, some 23, some 24, some 25, some 26]), (0, 12, []), (0, 12, []), (0, 12, []), (0, 12, []), (1, 12, []), (5, 3, [none, some 28, some 29]), (0, 10, []), (0, 10, [])]
def Az128 : Nat → Nat → Int32 := va_up Az124 30 (fun _ => 0)
def Bz129 : Nat → Nat → Int64 := va_up Bz125 30 (fun _ => 0)
def Tz130 : MS := [(13, 8, [some 1, none, none, none, none, none, none, none]), (12, 4, [some 2, some 4, some 10, some 13]), (7, 4, [none, none, none, some 3]), (0, 9, []), (6, 6, [none, some 5, some 6, some 7, some 8, some 9]), (0, 12, []), (0, 12, []), (0, 12, []), (0, 12, []), (1, 12, []), (5, 3, [none, some 11, some 12]), (0, 10, []), (0, 10, []), (9, 5, [none, some 14, some 15, some 16, some 17]), (0, 10, []), (0, 10, []), (0, 10, []), (0, 10, []), (12, 4, [some 19, some 21, some 27, none]), (7, 4, [none, none, none, some 20]), (0, 9, []), (6, 6, [none, some 22, some 23, some 24, some 25, some 26]), (0, 12, []), (0, 12, []), (0, 12, []), (0, 12, []), (1, 12, []), (5, 3, [none, some 28, some 29]), (0, 10, []), (0, 10, []), (9, 5, [none, none, none, none, none])]
def Az131 : Nat → Nat → Int32 := va_up Az128 30 (upd (Az128 30) 0 (0))
def Az132 : Nat → Nat → Int32 := va_up Az131 31 (fun _ => 0)
def Bz133 : Nat → Nat → Int64 := va_up Bz129 31 (fun _ => 0)
def Tz134 : MS := [(13, 8, [some 1, none, none, none, none, none, none, none]), (12, 4, [some 2, some 4, some 10, some 13]), (7, 4, [none, none, none, some 3]), (0, 9, []), (6, 6, [none, some 5, some 6, some 7, some 8, some 9]), (0, 12, []), (0, 12, []), (0, 12, []), (0, 12, []), (1, 12, []), (5, 3, [none, some 11, some 12]), (0, 10, []), (0, 10, []), (9, 5, [none, some 14, some 15, some 16, some 17]), (0, 10, []), (0, 10, []), (0, 10, []), (0, 10, []), (12, 4, [some 19, some 21, some 27, none]), (7, 4, [none, none, none, some 20]), (0, 9, []), (6, 6, [none, some 22, some 23, some 24, some 25, some 26]), (0, 12, []), (0, 12, []), (0, 12, []), (0, 12, []), (1, 12, []), (5, 3, [none, some 28, some 29]), (0, 10, []), (0, 10, []), (9, 5, [none, some 31, none, none, none]), (0, 10, [])]
def Az135 : Nat → Nat → Int32 := va_up Az132 32 (fun _ => 0)
def Bz136 : Nat → Nat → Int64 := va_up Bz133 32 (fun _ => 0)
def Tz137 : MS := [(13, 8, [some 1, none, none, none, none, none, none, none]), (12, 4, [some 2, some 4, some 10, some 13]), (7, 4, [none, none, none, some 3]), (0, 9, []), (6, 6, [none, some 5, some 6, some 7, some 8, some 9]), (0, 12, []), (0, 12, []), (0, 12, []), (0, 12, []), (1, 12, []), (5, 3, [none, some 11, some 12]), (0, 10, []), (0, 10, []), (9, 5, [none, some 14, some 15, some 16, some 17]), (0, 10, []), (0, 10, []), (0, 10, []), (0, 10, []), (12, 4, [some 19, some 21, some 27, none]), (7, 4, [none, none, none, some 20]), (0, 9, []), (6, 6, [none, some 22, some 23, some 24, some 25, some 26]), (0, 12, []), (0, 12, []), (0, 12, []), (0, 12, []), (1, 12, []), (5, 3, [none, some 28, some 29]), (0, 10, []), (0, 10, []), (9, 5, [none, some 31, some 32, none, none]), (0, 10, []), (0, 10, [])]
def Az138 : Nat → Nat → Int32 := va_up Az135 33 (fun _ => 0)
def Bz139 : Nat → Nat → Int64 := va_up Bz136 33 (fun _ => 0)
def Tz140 : MS := [(13, 8, [some 1, none, none, none, none, none, none, none]), (12, 4, [some 2, some 4, some 10, some 13]), (7, 4, [none, none, none, some 3]), (0, 9, []), (6, 6, [none, some 5, some 6, some 7, some 8, some 9]), (0, 12, []), (0, 12, []), (0, 12, []), (0, 12, []), (1, 12, []), (5, 3, [none, some 11, some 12]), (0, 10, []), (0, 10, []), (9, 5, [none, some 14, some 15, some 16, some 17]), (0, 10, []), (0, 10, []), (0, 10, []), (0, 10, []), (12, 4, [some 19, some 21, some 27, none]), (7, 4, [none, none, none, some 20]), (0, 9, []), (6, 6, [none, some 22, some 23, some 24, some 25, some 26]), (0, 12, []), (0, 12, []), (0, 12, []), (0, 12, []), (1, 12, []), (5, 3, [none, some 28, some 29]), (0, 10, []), (0, 10, []), (9, 5, [none, some 31, some 32, some 33, none]), (0, 10, []), (0, 10, []), (0, 10, [])]
def Az141 : Nat → Nat → Int32 := va_up Az138 34 (fun _ => 0)
def Bz142 : Nat → Nat → Int64 := va_up Bz139 34 (fun _ => 0)
def Tz143 : MS := [(13, 8, [some 1, none, none, none, none, none, none, none]), (12, 4, [some 2, some 4, some 10, some 13]), (7, 4, [none, none, none, some 3]), (0, 9, []), (6, 6, [none, some 5, some 6, some 7, some 8, some 9]), (0, 12, []), (0, 12, []), (0, 12, []), (0, 12, []), (1, 12, []), (5, 3, [none, some 11, some 12]), (0, 10, []), (0, 10, []), (9, 5, [none, some 14, some 15, some 16, some 17]), (0, 10, []), (0, 10, []), (0, 10, []), (0, 10, []), (12, 4, [some 19, some 21, some 27, none]), (7, 4, [none, none, none, some 20]), (0, 9, []), (6, 6, [none, some 22, some 23, some 24, some 25, some 26]), (0, 12, []), (0, 12, []), (0, 12, []), (0, 12, []), (1, 12, []), (5, 3, [none, some 28, some 29]), (0, 10, []), (0, 10, []), (9, 5, [none, some 31, some 32, some 33, some 34]), (0, 10, []), (0, 10, []), (0, 10, []), (0, 10, [])]
theorem i_X4_30 {E : ME} {d : Nat} {K : MK} (hK : K none (Tz143, Az141, Bz142)) : mCall E (d + 1) nX4_init [.ref 30] (Tz130, Az128, Bz129) K := by
  refine mCall_sem MX4_init rfl rfl (Or.inr ⟨rfl, rfl⟩) rfl (mSem_wp MX4_init rfl aX4_init 300 [17] (fun cl ax hcl hax => ?_))
  refine ⟨by decide, ?_⟩
  refine hax _ _ _ _ (show mSem E (d + 1) nX4_init (Tz130, Az128, Bz129) 4 40 K 17 [some (.ref 30)] [] (Tz134, Az132, Bz133) from ?_)
  clear hcl hax
  clear cl ax
  refine mSem_wp MX4_init rfl aX4_init 300 [25] (fun cl ax hcl hax => ?_)
  refine ⟨by decide, ?_⟩
  refine hax _ _ _ _ (show mSem E (d + 1) nX4_init (Tz130, Az128, Bz129) 4 40 K 25 [some (.ref 30)] [] (Tz137, Az135, Bz136) from ?_)
  clear hcl hax
  clear cl ax
  refine mSem_wp MX4_init rfl aX4_init 300 [33] (fun cl ax hcl hax => ?_)
  refine ⟨by decide, ?_⟩
  refine hax _ _ _ _ (show mSem E (d + 1) nX4_init (Tz130, Az128, Bz129) 4 40 K 33 [some (.ref 30)] [] (Tz140, Az138, Bz139) from ?_)
  clear hcl hax
  clear cl ax
  refine mSem_wp MX4_init rfl aX4_init 300 [] (fun cl ax hcl hax => ?_)
  refine ⟨by decide, ?_⟩
  exact hK
def Tz144 : MS := [(13, 8, [some 1, none, none, none, none, none, none, none]), (12, 4, [some 2, some 4, some 10, some 13]), (7, 4, [none, none, none, some 3]), (0, 9, []), (6, 6, [none, some 5, some 6, some 7, some 8, some 9]), (0, 12, []), (0, 12, []), (0, 12, []), (0, 12, []), (1, 12, []), (5, 3, [none, some 11, some 12]), (0, 10, []), (0, 10, []), (9, 5, [none, some 14, some 15, some 16, some 17]), (0, 10, []), (0, 10, []), (0, 10, []), (0, 10, []), (12, 4, [some 19, some 21, some 27, some 30]), (7, 4, [none, none, none, some 20]), (0, 9, []), (6, 6, [none, some 22, some 23, some 24, some 25, some 26]), (0, 12, []), (0, 12, []), (0, 12, []), (0, 12, []), (1, 12, []), (5, 3, [none, some 28, some 29]), (0, 10, []), (0, 10, []), (9, 5, [none, some 31, some 32, some 33, some 34]), (0, 10, []), (0, 10, []), (0, 10, []), (0, 10, [])]
theorem i_X7_18 {E : ME} {d : Nat} {K : MK} (hK : K none (Tz144, Az141, Bz142)) : mCall E (d + 2) nX7_init [.ref 18] (Tz77, Az75, Bz76) K := by
  refine mCall_sem MX7_init rfl rfl (Or.inr ⟨rfl, rfl⟩) rfl (mSem_wp MX7_init rfl aX7_init 300 [15] (fun cl ax hcl hax => ?_))
  refine hcl _ _ _ _ (i_X2_19 ?_)
  refine hax _ _ _ _ (show mSem E (d + 2) nX7_init (Tz77, Az75, Bz76) 16 147 K 15 [some (.ref 18)] [] (Tz96, Az95, Bz85) from ?_)
  clear hcl hax
  clear cl ax
  refine mSem_wp MX7_init rfl aX7_init 300 [26] (fun cl ax hcl hax => ?_)
  refine hcl _ _ _ _ (i_X1_21 ?_)
  refine hax _ _ _ _ (show mSem E (d + 2) nX7_init (Tz77, Az75, Bz76) 16 147 K 26 [some (.ref 18)] [] (Tz116, Az113, Bz114) from ?_)
  clear hcl hax
  clear cl ax
  refine mSem_wp MX7_init rfl aX7_init 300 [37] (fun cl ax hcl hax => ?_)
  refine hcl _ _ _ _ (i_X0_27 ?_)
  refine hax _ _ _ _ (show mSem E (d + 2) nX7_init (Tz77, Az75, Bz76) 16 147 K 37 [some (.ref 18)] [] (Tz127, Az124, Bz125) from ?_)
  clear hcl hax
  clear cl ax
  refine mSem_wp MX7_init rfl aX7_init 300 [48] (fun cl ax hcl hax => ?_)
  refine hcl _ _ _ _ (i_X4_30 ?_)
  refine hax _ _ _ _ (show mSem E (d + 2) nX7_init (Tz77, Az75, Bz76) 16 147 K 48 [some (.ref 18)] [] (Tz144, Az141, Bz142) from ?_)
  clear hcl hax
  clear cl ax
  refine mSem_wp MX7_init rfl aX7_init 300 [] (fun cl ax hcl hax => ?_)
  exact hK
def Tz145 : MS := [(13, 8, [some 1, some 18, none, none, none, none, none, none]), (12, 4, [some 2, some 4, some 10, some 13]), (7, 4, [none, none, none, some 3]), (0, 9, []), (6, 6, [none, some 5, some 6, some 7, some 8, some 9]), (0, 12, []), (0, 12, []), (0, 12, []), (0, 12, []), (1, 12, []), (5, 3, [none, some 11, some 12]), (0, 10, []), (0, 10, []), (9, 5, [none, some 14, some 15, some 16, some 17]), (0, 10, []), (0, 10, []), (0, 10, []), (0, 10, []), (12, 4, [some 19, some 21, some 27, some 30]), (7, 4, [none, none, none, some 20]), (0, 9, []), (6, 6, [none, some 22, some 23, some 24, some 25, some 26]), (0, 12, []), (0, 12, []), (0, 12, []), (0, 12, []), (1, 12, []), (5, 3, [none, some 28, some 29]), (0, 10, []), (0, 10, []), (9, 5, [none, some 31, some 32, some 33, some 34]), (0, 10, []), (0, 10, []), (0, 10, []), (0, 10, [])]
