/-! WORDS -/
def w_edge : List Int32 := [101, 100, 103, 101]
def w_pace : List Int32 := [112, 97, 99, 101]
def w_warm : List Int32 := [119, 97, 114, 109]
def w_stake : List Int32 := [115, 116, 97, 107, 101]
def w_from : List Int32 := [102, 114, 111, 109]
def w_for : List Int32 := [102, 111, 114]
def w_went : List Int32 := [119, 101, 110, 116]
def w_roped : List Int32 := [114, 111, 112, 101, 100]
def w_sledge : List Int32 := [115, 108, 101, 100, 103, 101]
def w_church : List Int32 := [99, 104, 117, 114, 99, 104]
def w_ferry : List Int32 := [102, 101, 114, 114, 121]
def w_deep : List Int32 := [100, 101, 101, 112]
def w_house : List Int32 := [104, 111, 117, 115, 101]
def w_at : List Int32 := [97, 116]
def w_hold : List Int32 := [104, 111, 108, 100]
abbrev WD (c : Nat → Int32) (k e : Nat) (w : List Int32) : Prop := ts c k e = 1 ∧ te c k e - tb c k e = w.length ∧ ∀ j, j < w.length → c (tb c k e + j) = w.getD j 0
theorem tx_1 {c : Nat → Int32} {k e : Nat} (he : e ≤ k) : tx c k e = 1 ↔ ts c k e = 1 := by
  have h := (tk_b c he).2.2.2.1
  unfold tx
  split
  · rename_i q
    exact ⟨fun z => absurd z (by decide), fun z => by omega⟩
  · exact nI_eq (a := ts c k e) (b := 1) (by omega) (by decide)
theorem w_check3 {E : ME} {d : Nat} {h : MH} {K : MK} {j L : Nat} (hj : j < L) (hL : L < 2 ^ 31) (hK : K (some (.int (nI j))) h) : mCall E d nJ3_checkIndex_8e157 [.int (nI j), .int (nI L), .ref 1002] h K := by
  refine mCall_sem MJ3_checkIndex_8e157 rfl rfl (Or.inl ⟨rfl, rfl, rfl⟩) rfl (mSem_wp MJ3_checkIndex_8e157 rfl aJ3_checkIndex_8e157 300 [] (fun cl ax hcl hax => ?_))
  refine ⟨fun c => absurd c (nI_pos (by omega)), fun _ => ?_⟩
  exact ⟨fun _ => hK, fun c => absurd (nI_lt hj hL) c⟩
theorem w_check {E : ME} {d : Nat} {h : MH} {K : MK} {j L : Nat} (hj : j < L) (hL : L < 2 ^ 31) (hK : K none h) : mCall E (d + 1) nJ0_checkIndex_df160 [.int (nI j), .int (nI L)] h K := by
  refine mCall_sem MJ0_checkIndex_df160 rfl rfl (Or.inl ⟨rfl, rfl, rfl⟩) rfl (mSem_wp MJ0_checkIndex_df160 rfl aJ0_checkIndex_df160 300 [] (fun cl ax hcl hax => ?_))
  exact hcl _ _ _ _ (w_check3 hj hL hK)
theorem w_coder0 {E : ME} {d : Nat} {h : MH} {K : MK} (hK : K (some (.int 0)) h) : mCall E d nJ0_coder_7d493 [.ref 1010] h K := by
  refine mCall_sem MJ0_coder_7d493 rfl rfl (Or.inl ⟨rfl, rfl, rfl⟩) rfl (mSem_wp MJ0_coder_7d493 rfl aJ0_coder_7d493 300 [] (fun cl ax hcl hax => ?_))
  refine ⟨fun h9 => absurd h9 (by decide), fun _ => ?_⟩
  exact ⟨rfl, hK⟩
theorem w_latin0 {E : ME} {d : Nat} {h : MH} {K : MK} (hK : K (some (.int 1)) h) : mCall E d nJ0_isLatin1_aae02 [.ref 1010] h K := by
  refine mCall_sem MJ0_isLatin1_aae02 rfl rfl (Or.inl ⟨rfl, rfl, rfl⟩) rfl (mSem_wp MJ0_isLatin1_aae02 rfl aJ0_isLatin1_aae02 300 [] (fun cl ax hcl hax => ?_))
  refine ⟨fun h9 => absurd h9 (by decide), fun _ => ?_⟩
  refine ⟨fun h9 => absurd h9 (by decide), fun _ => ?_⟩
  exact ⟨rfl, hK⟩
theorem w_len0 {E : ME} {d : Nat} {h : MH} {K : MK} (hK : K (some (.int (nI 4))) h) : mCall E (d + 1) nJ0_length_8abf5 [.ref 1010] h K := by
  have e : nI 4 >>> ((0 : Int32) &&& 31) = nI 4 := by decide
  rw [← e] at hK
  refine mCall_sem MJ0_length_8abf5 rfl rfl (Or.inl ⟨rfl, rfl, rfl⟩) rfl (mSem_wp MJ0_length_8abf5 rfl aJ0_length_8abf5 300 [] (fun cl ax hcl hax => ?_))
  refine hcl _ _ _ _ (w_coder0 ?_)
  exact hK
theorem w_jchar0 {E : ME} {d : Nat} {h : MH} {K : MK} (j : Nat) (hj : j < 4) (hK : K (some (.int (w_edge.getD j 0))) h) : mCall E (d + 2) nJ1_charAt_3b067 [.ref 1050, .int (nI j)] h K := by
  have e8 : (nI j).toNatClampNeg = j := nI_clamp (by omega)
  have ew : ((w_edge.getD j 0 &&& 255).toUInt32 % 65536).toInt32 = w_edge.getD j 0 := (show ∀ j, j < 4 → ((w_edge.getD j 0 &&& 255).toUInt32 % 65536).toInt32 = w_edge.getD j 0 by decide) j hj
  rw [← ew] at hK
  refine mCall_sem MJ1_charAt_3b067 rfl rfl (Or.inl ⟨rfl, rfl, rfl⟩) rfl (mSem_wp MJ1_charAt_3b067 rfl aJ1_charAt_3b067 300 [] (fun cl ax hcl hax => ?_))
  refine hcl _ _ _ _ (w_check (L := 4) hj (by decide) ?_)
  refine ⟨vp_in_nI (N := 4) hj (by decide), ?_⟩
  refine ⟨pk_nc _, ?_⟩
  rw [e8]
  exact hK
theorem w_char0 {E : ME} {d : Nat} {h : MH} {K : MK} (j : Nat) (hj : j < 4) (hK : K (some (.int (w_edge.getD j 0))) h) : mCall E (d + 3) nJ0_charAt_5068e [.ref 1010, .int (nI j)] h K := by
  have ew : ((w_edge.getD j 0 &&& 255).toUInt32 % 65536).toInt32 = w_edge.getD j 0 := (show ∀ j, j < 4 → ((w_edge.getD j 0 &&& 255).toUInt32 % 65536).toInt32 = w_edge.getD j 0 by decide) j hj
  refine mCall_sem MJ0_charAt_5068e rfl rfl (Or.inl ⟨rfl, rfl, rfl⟩) rfl (mSem_wp MJ0_charAt_5068e rfl aJ0_charAt_5068e 300 [] (fun cl ax hcl hax => ?_))
  refine hcl _ _ _ _ (w_latin0 ?_)
  refine ⟨fun h9 => absurd h9 (by decide), fun _ => ?_⟩
  refine hcl _ _ _ _ (w_jchar0 j hj ?_)
  refine ⟨?_, hK⟩
  rw [← ew]
  exact pk_nc _
theorem w_coder23 {E : ME} {d : Nat} {h : MH} {K : MK} (hK : K (some (.int 0)) h) : mCall E d nJ0_coder_7d493 [.ref 1033] h K := by
  refine mCall_sem MJ0_coder_7d493 rfl rfl (Or.inl ⟨rfl, rfl, rfl⟩) rfl (mSem_wp MJ0_coder_7d493 rfl aJ0_coder_7d493 300 [] (fun cl ax hcl hax => ?_))
  refine ⟨fun h9 => absurd h9 (by decide), fun _ => ?_⟩
  exact ⟨rfl, hK⟩
theorem w_latin23 {E : ME} {d : Nat} {h : MH} {K : MK} (hK : K (some (.int 1)) h) : mCall E d nJ0_isLatin1_aae02 [.ref 1033] h K := by
  refine mCall_sem MJ0_isLatin1_aae02 rfl rfl (Or.inl ⟨rfl, rfl, rfl⟩) rfl (mSem_wp MJ0_isLatin1_aae02 rfl aJ0_isLatin1_aae02 300 [] (fun cl ax hcl hax => ?_))
  refine ⟨fun h9 => absurd h9 (by decide), fun _ => ?_⟩
  refine ⟨fun h9 => absurd h9 (by decide), fun _ => ?_⟩
  exact ⟨rfl, hK⟩
theorem w_len23 {E : ME} {d : Nat} {h : MH} {K : MK} (hK : K (some (.int (nI 4))) h) : mCall E (d + 1) nJ0_length_8abf5 [.ref 1033] h K := by
  have e : nI 4 >>> ((0 : Int32) &&& 31) = nI 4 := by decide
  rw [← e] at hK
  refine mCall_sem MJ0_length_8abf5 rfl rfl (Or.inl ⟨rfl, rfl, rfl⟩) rfl (mSem_wp MJ0_length_8abf5 rfl aJ0_length_8abf5 300 [] (fun cl ax hcl hax => ?_))
  refine hcl _ _ _ _ (w_coder23 ?_)
  exact hK
theorem w_jchar23 {E : ME} {d : Nat} {h : MH} {K : MK} (j : Nat) (hj : j < 4) (hK : K (some (.int (w_edge.getD j 0))) h) : mCall E (d + 2) nJ1_charAt_3b067 [.ref 1073, .int (nI j)] h K := by
  have e8 : (nI j).toNatClampNeg = j := nI_clamp (by omega)
  have ew : ((w_edge.getD j 0 &&& 255).toUInt32 % 65536).toInt32 = w_edge.getD j 0 := (show ∀ j, j < 4 → ((w_edge.getD j 0 &&& 255).toUInt32 % 65536).toInt32 = w_edge.getD j 0 by decide) j hj
  rw [← ew] at hK
  refine mCall_sem MJ1_charAt_3b067 rfl rfl (Or.inl ⟨rfl, rfl, rfl⟩) rfl (mSem_wp MJ1_charAt_3b067 rfl aJ1_charAt_3b067 300 [] (fun cl ax hcl hax => ?_))
  refine hcl _ _ _ _ (w_check (L := 4) hj (by decide) ?_)
  refine ⟨vp_in_nI (N := 4) hj (by decide), ?_⟩
  refine ⟨pk_nc _, ?_⟩
  rw [e8]
  exact hK
theorem w_char23 {E : ME} {d : Nat} {h : MH} {K : MK} (j : Nat) (hj : j < 4) (hK : K (some (.int (w_edge.getD j 0))) h) : mCall E (d + 3) nJ0_charAt_5068e [.ref 1033, .int (nI j)] h K := by
  have ew : ((w_edge.getD j 0 &&& 255).toUInt32 % 65536).toInt32 = w_edge.getD j 0 := (show ∀ j, j < 4 → ((w_edge.getD j 0 &&& 255).toUInt32 % 65536).toInt32 = w_edge.getD j 0 by decide) j hj
  refine mCall_sem MJ0_charAt_5068e rfl rfl (Or.inl ⟨rfl, rfl, rfl⟩) rfl (mSem_wp MJ0_charAt_5068e rfl aJ0_charAt_5068e 300 [] (fun cl ax hcl hax => ?_))
  refine hcl _ _ _ _ (w_latin23 ?_)
  refine ⟨fun h9 => absurd h9 (by decide), fun _ => ?_⟩
  refine hcl _ _ _ _ (w_jchar23 j hj ?_)
  refine ⟨?_, hK⟩
  rw [← ew]
  exact pk_nc _
theorem w_coder1 {E : ME} {d : Nat} {h : MH} {K : MK} (hK : K (some (.int 0)) h) : mCall E d nJ0_coder_7d493 [.ref 1011] h K := by
  refine mCall_sem MJ0_coder_7d493 rfl rfl (Or.inl ⟨rfl, rfl, rfl⟩) rfl (mSem_wp MJ0_coder_7d493 rfl aJ0_coder_7d493 300 [] (fun cl ax hcl hax => ?_))
  refine ⟨fun h9 => absurd h9 (by decide), fun _ => ?_⟩
  exact ⟨rfl, hK⟩
theorem w_latin1 {E : ME} {d : Nat} {h : MH} {K : MK} (hK : K (some (.int 1)) h) : mCall E d nJ0_isLatin1_aae02 [.ref 1011] h K := by
  refine mCall_sem MJ0_isLatin1_aae02 rfl rfl (Or.inl ⟨rfl, rfl, rfl⟩) rfl (mSem_wp MJ0_isLatin1_aae02 rfl aJ0_isLatin1_aae02 300 [] (fun cl ax hcl hax => ?_))
  refine ⟨fun h9 => absurd h9 (by decide), fun _ => ?_⟩
  refine ⟨fun h9 => absurd h9 (by decide), fun _ => ?_⟩
  exact ⟨rfl, hK⟩
theorem w_len1 {E : ME} {d : Nat} {h : MH} {K : MK} (hK : K (some (.int (nI 4))) h) : mCall E (d + 1) nJ0_length_8abf5 [.ref 1011] h K := by
  have e : nI 4 >>> ((0 : Int32) &&& 31) = nI 4 := by decide
  rw [← e] at hK
  refine mCall_sem MJ0_length_8abf5 rfl rfl (Or.inl ⟨rfl, rfl, rfl⟩) rfl (mSem_wp MJ0_length_8abf5 rfl aJ0_length_8abf5 300 [] (fun cl ax hcl hax => ?_))
  refine hcl _ _ _ _ (w_coder1 ?_)
  exact hK
theorem w_jchar1 {E : ME} {d : Nat} {h : MH} {K : MK} (j : Nat) (hj : j < 4) (hK : K (some (.int (w_pace.getD j 0))) h) : mCall E (d + 2) nJ1_charAt_3b067 [.ref 1051, .int (nI j)] h K := by
  have e8 : (nI j).toNatClampNeg = j := nI_clamp (by omega)
  have ew : ((w_pace.getD j 0 &&& 255).toUInt32 % 65536).toInt32 = w_pace.getD j 0 := (show ∀ j, j < 4 → ((w_pace.getD j 0 &&& 255).toUInt32 % 65536).toInt32 = w_pace.getD j 0 by decide) j hj
  rw [← ew] at hK
  refine mCall_sem MJ1_charAt_3b067 rfl rfl (Or.inl ⟨rfl, rfl, rfl⟩) rfl (mSem_wp MJ1_charAt_3b067 rfl aJ1_charAt_3b067 300 [] (fun cl ax hcl hax => ?_))
  refine hcl _ _ _ _ (w_check (L := 4) hj (by decide) ?_)
  refine ⟨vp_in_nI (N := 4) hj (by decide), ?_⟩
  refine ⟨pk_nc _, ?_⟩
  rw [e8]
  exact hK
theorem w_char1 {E : ME} {d : Nat} {h : MH} {K : MK} (j : Nat) (hj : j < 4) (hK : K (some (.int (w_pace.getD j 0))) h) : mCall E (d + 3) nJ0_charAt_5068e [.ref 1011, .int (nI j)] h K := by
  have ew : ((w_pace.getD j 0 &&& 255).toUInt32 % 65536).toInt32 = w_pace.getD j 0 := (show ∀ j, j < 4 → ((w_pace.getD j 0 &&& 255).toUInt32 % 65536).toInt32 = w_pace.getD j 0 by decide) j hj
  refine mCall_sem MJ0_charAt_5068e rfl rfl (Or.inl ⟨rfl, rfl, rfl⟩) rfl (mSem_wp MJ0_charAt_5068e rfl aJ0_charAt_5068e 300 [] (fun cl ax hcl hax => ?_))
  refine hcl _ _ _ _ (w_latin1 ?_)
  refine ⟨fun h9 => absurd h9 (by decide), fun _ => ?_⟩
  refine hcl _ _ _ _ (w_jchar1 j hj ?_)
  refine ⟨?_, hK⟩
  rw [← ew]
  exact pk_nc _
theorem w_coder24 {E : ME} {d : Nat} {h : MH} {K : MK} (hK : K (some (.int 0)) h) : mCall E d nJ0_coder_7d493 [.ref 1034] h K := by
  refine mCall_sem MJ0_coder_7d493 rfl rfl (Or.inl ⟨rfl, rfl, rfl⟩) rfl (mSem_wp MJ0_coder_7d493 rfl aJ0_coder_7d493 300 [] (fun cl ax hcl hax => ?_))
  refine ⟨fun h9 => absurd h9 (by decide), fun _ => ?_⟩
  exact ⟨rfl, hK⟩
theorem w_latin24 {E : ME} {d : Nat} {h : MH} {K : MK} (hK : K (some (.int 1)) h) : mCall E d nJ0_isLatin1_aae02 [.ref 1034] h K := by
  refine mCall_sem MJ0_isLatin1_aae02 rfl rfl (Or.inl ⟨rfl, rfl, rfl⟩) rfl (mSem_wp MJ0_isLatin1_aae02 rfl aJ0_isLatin1_aae02 300 [] (fun cl ax hcl hax => ?_))
  refine ⟨fun h9 => absurd h9 (by decide), fun _ => ?_⟩
  refine ⟨fun h9 => absurd h9 (by decide), fun _ => ?_⟩
  exact ⟨rfl, hK⟩
theorem w_len24 {E : ME} {d : Nat} {h : MH} {K : MK} (hK : K (some (.int (nI 4))) h) : mCall E (d + 1) nJ0_length_8abf5 [.ref 1034] h K := by
  have e : nI 4 >>> ((0 : Int32) &&& 31) = nI 4 := by decide
  rw [← e] at hK
  refine mCall_sem MJ0_length_8abf5 rfl rfl (Or.inl ⟨rfl, rfl, rfl⟩) rfl (mSem_wp MJ0_length_8abf5 rfl aJ0_length_8abf5 300 [] (fun cl ax hcl hax => ?_))
  refine hcl _ _ _ _ (w_coder24 ?_)
  exact hK
theorem w_jchar24 {E : ME} {d : Nat} {h : MH} {K : MK} (j : Nat) (hj : j < 4) (hK : K (some (.int (w_pace.getD j 0))) h) : mCall E (d + 2) nJ1_charAt_3b067 [.ref 1074, .int (nI j)] h K := by
  have e8 : (nI j).toNatClampNeg = j := nI_clamp (by omega)
  have ew : ((w_pace.getD j 0 &&& 255).toUInt32 % 65536).toInt32 = w_pace.getD j 0 := (show ∀ j, j < 4 → ((w_pace.getD j 0 &&& 255).toUInt32 % 65536).toInt32 = w_pace.getD j 0 by decide) j hj
  rw [← ew] at hK
  refine mCall_sem MJ1_charAt_3b067 rfl rfl (Or.inl ⟨rfl, rfl, rfl⟩) rfl (mSem_wp MJ1_charAt_3b067 rfl aJ1_charAt_3b067 300 [] (fun cl ax hcl hax => ?_))
  refine hcl _ _ _ _ (w_check (L := 4) hj (by decide) ?_)
  refine ⟨vp_in_nI (N := 4) hj (by decide), ?_⟩
  refine ⟨pk_nc _, ?_⟩
  rw [e8]
  exact hK
theorem w_char24 {E : ME} {d : Nat} {h : MH} {K : MK} (j : Nat) (hj : j < 4) (hK : K (some (.int (w_pace.getD j 0))) h) : mCall E (d + 3) nJ0_charAt_5068e [.ref 1034, .int (nI j)] h K := by
  have ew : ((w_pace.getD j 0 &&& 255).toUInt32 % 65536).toInt32 = w_pace.getD j 0 := (show ∀ j, j < 4 → ((w_pace.getD j 0 &&& 255).toUInt32 % 65536).toInt32 = w_pace.getD j 0 by decide) j hj
  refine mCall_sem MJ0_charAt_5068e rfl rfl (Or.inl ⟨rfl, rfl, rfl⟩) rfl (mSem_wp MJ0_charAt_5068e rfl aJ0_charAt_5068e 300 [] (fun cl ax hcl hax => ?_))
  refine hcl _ _ _ _ (w_latin24 ?_)
  refine ⟨fun h9 => absurd h9 (by decide), fun _ => ?_⟩
  refine hcl _ _ _ _ (w_jchar24 j hj ?_)
  refine ⟨?_, hK⟩
  rw [← ew]
  exact pk_nc _
theorem w_coder2 {E : ME} {d : Nat} {h : MH} {K : MK} (hK : K (some (.int 0)) h) : mCall E d nJ0_coder_7d493 [.ref 1012] h K := by
  refine mCall_sem MJ0_coder_7d493 rfl rfl (Or.inl ⟨rfl, rfl, rfl⟩) rfl (mSem_wp MJ0_coder_7d493 rfl aJ0_coder_7d493 300 [] (fun cl ax hcl hax => ?_))
  refine ⟨fun h9 => absurd h9 (by decide), fun _ => ?_⟩
  exact ⟨rfl, hK⟩
theorem w_latin2 {E : ME} {d : Nat} {h : MH} {K : MK} (hK : K (some (.int 1)) h) : mCall E d nJ0_isLatin1_aae02 [.ref 1012] h K := by
  refine mCall_sem MJ0_isLatin1_aae02 rfl rfl (Or.inl ⟨rfl, rfl, rfl⟩) rfl (mSem_wp MJ0_isLatin1_aae02 rfl aJ0_isLatin1_aae02 300 [] (fun cl ax hcl hax => ?_))
  refine ⟨fun h9 => absurd h9 (by decide), fun _ => ?_⟩
  refine ⟨fun h9 => absurd h9 (by decide), fun _ => ?_⟩
  exact ⟨rfl, hK⟩
theorem w_len2 {E : ME} {d : Nat} {h : MH} {K : MK} (hK : K (some (.int (nI 4))) h) : mCall E (d + 1) nJ0_length_8abf5 [.ref 1012] h K := by
  have e : nI 4 >>> ((0 : Int32) &&& 31) = nI 4 := by decide
  rw [← e] at hK
  refine mCall_sem MJ0_length_8abf5 rfl rfl (Or.inl ⟨rfl, rfl, rfl⟩) rfl (mSem_wp MJ0_length_8abf5 rfl aJ0_length_8abf5 300 [] (fun cl ax hcl hax => ?_))
  refine hcl _ _ _ _ (w_coder2 ?_)
  exact hK
theorem w_jchar2 {E : ME} {d : Nat} {h : MH} {K : MK} (j : Nat) (hj : j < 4) (hK : K (some (.int (w_warm.getD j 0))) h) : mCall E (d + 2) nJ1_charAt_3b067 [.ref 1052, .int (nI j)] h K := by
  have e8 : (nI j).toNatClampNeg = j := nI_clamp (by omega)
  have ew : ((w_warm.getD j 0 &&& 255).toUInt32 % 65536).toInt32 = w_warm.getD j 0 := (show ∀ j, j < 4 → ((w_warm.getD j 0 &&& 255).toUInt32 % 65536).toInt32 = w_warm.getD j 0 by decide) j hj
  rw [← ew] at hK
  refine mCall_sem MJ1_charAt_3b067 rfl rfl (Or.inl ⟨rfl, rfl, rfl⟩) rfl (mSem_wp MJ1_charAt_3b067 rfl aJ1_charAt_3b067 300 [] (fun cl ax hcl hax => ?_))
  refine hcl _ _ _ _ (w_check (L := 4) hj (by decide) ?_)
  refine ⟨vp_in_nI (N := 4) hj (by decide), ?_⟩
  refine ⟨pk_nc _, ?_⟩
  rw [e8]
  exact hK
theorem w_char2 {E : ME} {d : Nat} {h : MH} {K : MK} (j : Nat) (hj : j < 4) (hK : K (some (.int (w_warm.getD j 0))) h) : mCall E (d + 3) nJ0_charAt_5068e [.ref 1012, .int (nI j)] h K := by
  have ew : ((w_warm.getD j 0 &&& 255).toUInt32 % 65536).toInt32 = w_warm.getD j 0 := (show ∀ j, j < 4 → ((w_warm.getD j 0 &&& 255).toUInt32 % 65536).toInt32 = w_warm.getD j 0 by decide) j hj
  refine mCall_sem MJ0_charAt_5068e rfl rfl (Or.inl ⟨rfl, rfl, rfl⟩) rfl (mSem_wp MJ0_charAt_5068e rfl aJ0_charAt_5068e 300 [] (fun cl ax hcl hax => ?_))
  refine hcl _ _ _ _ (w_latin2 ?_)
  refine ⟨fun h9 => absurd h9 (by decide), fun _ => ?_⟩
  refine hcl _ _ _ _ (w_jchar2 j hj ?_)
  refine ⟨?_, hK⟩
  rw [← ew]
  exact pk_nc _
theorem w_coder25 {E : ME} {d : Nat} {h : MH} {K : MK} (hK : K (some (.int 0)) h) : mCall E d nJ0_coder_7d493 [.ref 1035] h K := by
  refine mCall_sem MJ0_coder_7d493 rfl rfl (Or.inl ⟨rfl, rfl, rfl⟩) rfl (mSem_wp MJ0_coder_7d493 rfl aJ0_coder_7d493 300 [] (fun cl ax hcl hax => ?_))
  refine ⟨fun h9 => absurd h9 (by decide), fun _ => ?_⟩
  exact ⟨rfl, hK⟩
theorem w_latin25 {E : ME} {d : Nat} {h : MH} {K : MK} (hK : K (some (.int 1)) h) : mCall E d nJ0_isLatin1_aae02 [.ref 1035] h K := by
  refine mCall_sem MJ0_isLatin1_aae02 rfl rfl (Or.inl ⟨rfl, rfl, rfl⟩) rfl (mSem_wp MJ0_isLatin1_aae02 rfl aJ0_isLatin1_aae02 300 [] (fun cl ax hcl hax => ?_))
  refine ⟨fun h9 => absurd h9 (by decide), fun _ => ?_⟩
  refine ⟨fun h9 => absurd h9 (by decide), fun _ => ?_⟩
  exact ⟨rfl, hK⟩
theorem w_len25 {E : ME} {d : Nat} {h : MH} {K : MK} (hK : K (some (.int (nI 4))) h) : mCall E (d + 1) nJ0_length_8abf5 [.ref 1035] h K := by
  have e : nI 4 >>> ((0 : Int32) &&& 31) = nI 4 := by decide
  rw [← e] at hK
  refine mCall_sem MJ0_length_8abf5 rfl rfl (Or.inl ⟨rfl, rfl, rfl⟩) rfl (mSem_wp MJ0_length_8abf5 rfl aJ0_length_8abf5 300 [] (fun cl ax hcl hax => ?_))
  refine hcl _ _ _ _ (w_coder25 ?_)
  exact hK
theorem w_jchar25 {E : ME} {d : Nat} {h : MH} {K : MK} (j : Nat) (hj : j < 4) (hK : K (some (.int (w_warm.getD j 0))) h) : mCall E (d + 2) nJ1_charAt_3b067 [.ref 1075, .int (nI j)] h K := by
  have e8 : (nI j).toNatClampNeg = j := nI_clamp (by omega)
  have ew : ((w_warm.getD j 0 &&& 255).toUInt32 % 65536).toInt32 = w_warm.getD j 0 := (show ∀ j, j < 4 → ((w_warm.getD j 0 &&& 255).toUInt32 % 65536).toInt32 = w_warm.getD j 0 by decide) j hj
  rw [← ew] at hK
  refine mCall_sem MJ1_charAt_3b067 rfl rfl (Or.inl ⟨rfl, rfl, rfl⟩) rfl (mSem_wp MJ1_charAt_3b067 rfl aJ1_charAt_3b067 300 [] (fun cl ax hcl hax => ?_))
  refine hcl _ _ _ _ (w_check (L := 4) hj (by decide) ?_)
  refine ⟨vp_in_nI (N := 4) hj (by decide), ?_⟩
  refine ⟨pk_nc _, ?_⟩
  rw [e8]
  exact hK
theorem w_char25 {E : ME} {d : Nat} {h : MH} {K : MK} (j : Nat) (hj : j < 4) (hK : K (some (.int (w_warm.getD j 0))) h) : mCall E (d + 3) nJ0_charAt_5068e [.ref 1035, .int (nI j)] h K := by
  have ew : ((w_warm.getD j 0 &&& 255).toUInt32 % 65536).toInt32 = w_warm.getD j 0 := (show ∀ j, j < 4 → ((w_warm.getD j 0 &&& 255).toUInt32 % 65536).toInt32 = w_warm.getD j 0 by decide) j hj
  refine mCall_sem MJ0_charAt_5068e rfl rfl (Or.inl ⟨rfl, rfl, rfl⟩) rfl (mSem_wp MJ0_charAt_5068e rfl aJ0_charAt_5068e 300 [] (fun cl ax hcl hax => ?_))
  refine hcl _ _ _ _ (w_latin25 ?_)
  refine ⟨fun h9 => absurd h9 (by decide), fun _ => ?_⟩
  refine hcl _ _ _ _ (w_jchar25 j hj ?_)
  refine ⟨?_, hK⟩
  rw [← ew]
  exact pk_nc _
theorem w_coder3 {E : ME} {d : Nat} {h : MH} {K : MK} (hK : K (some (.int 0)) h) : mCall E d nJ0_coder_7d493 [.ref 1013] h K := by
  refine mCall_sem MJ0_coder_7d493 rfl rfl (Or.inl ⟨rfl, rfl, rfl⟩) rfl (mSem_wp MJ0_coder_7d493 rfl aJ0_coder_7d493 300 [] (fun cl ax hcl hax => ?_))
  refine ⟨fun h9 => absurd h9 (by decide), fun _ => ?_⟩
  exact ⟨rfl, hK⟩
theorem w_latin3 {E : ME} {d : Nat} {h : MH} {K : MK} (hK : K (some (.int 1)) h) : mCall E d nJ0_isLatin1_aae02 [.ref 1013] h K := by
  refine mCall_sem MJ0_isLatin1_aae02 rfl rfl (Or.inl ⟨rfl, rfl, rfl⟩) rfl (mSem_wp MJ0_isLatin1_aae02 rfl aJ0_isLatin1_aae02 300 [] (fun cl ax hcl hax => ?_))
  refine ⟨fun h9 => absurd h9 (by decide), fun _ => ?_⟩
  refine ⟨fun h9 => absurd h9 (by decide), fun _ => ?_⟩
  exact ⟨rfl, hK⟩
theorem w_len3 {E : ME} {d : Nat} {h : MH} {K : MK} (hK : K (some (.int (nI 5))) h) : mCall E (d + 1) nJ0_length_8abf5 [.ref 1013] h K := by
  have e : nI 5 >>> ((0 : Int32) &&& 31) = nI 5 := by decide
  rw [← e] at hK
  refine mCall_sem MJ0_length_8abf5 rfl rfl (Or.inl ⟨rfl, rfl, rfl⟩) rfl (mSem_wp MJ0_length_8abf5 rfl aJ0_length_8abf5 300 [] (fun cl ax hcl hax => ?_))
  refine hcl _ _ _ _ (w_coder3 ?_)
  exact hK
theorem w_jchar3 {E : ME} {d : Nat} {h : MH} {K : MK} (j : Nat) (hj : j < 5) (hK : K (some (.int (w_stake.getD j 0))) h) : mCall E (d + 2) nJ1_charAt_3b067 [.ref 1053, .int (nI j)] h K := by
  have e8 : (nI j).toNatClampNeg = j := nI_clamp (by omega)
  have ew : ((w_stake.getD j 0 &&& 255).toUInt32 % 65536).toInt32 = w_stake.getD j 0 := (show ∀ j, j < 5 → ((w_stake.getD j 0 &&& 255).toUInt32 % 65536).toInt32 = w_stake.getD j 0 by decide) j hj
  rw [← ew] at hK
  refine mCall_sem MJ1_charAt_3b067 rfl rfl (Or.inl ⟨rfl, rfl, rfl⟩) rfl (mSem_wp MJ1_charAt_3b067 rfl aJ1_charAt_3b067 300 [] (fun cl ax hcl hax => ?_))
  refine hcl _ _ _ _ (w_check (L := 5) hj (by decide) ?_)
  refine ⟨vp_in_nI (N := 5) hj (by decide), ?_⟩
  refine ⟨pk_nc _, ?_⟩
  rw [e8]
  exact hK
theorem w_char3 {E : ME} {d : Nat} {h : MH} {K : MK} (j : Nat) (hj : j < 5) (hK : K (some (.int (w_stake.getD j 0))) h) : mCall E (d + 3) nJ0_charAt_5068e [.ref 1013, .int (nI j)] h K := by
  have ew : ((w_stake.getD j 0 &&& 255).toUInt32 % 65536).toInt32 = w_stake.getD j 0 := (show ∀ j, j < 5 → ((w_stake.getD j 0 &&& 255).toUInt32 % 65536).toInt32 = w_stake.getD j 0 by decide) j hj
  refine mCall_sem MJ0_charAt_5068e rfl rfl (Or.inl ⟨rfl, rfl, rfl⟩) rfl (mSem_wp MJ0_charAt_5068e rfl aJ0_charAt_5068e 300 [] (fun cl ax hcl hax => ?_))
  refine hcl _ _ _ _ (w_latin3 ?_)
  refine ⟨fun h9 => absurd h9 (by decide), fun _ => ?_⟩
  refine hcl _ _ _ _ (w_jchar3 j hj ?_)
  refine ⟨?_, hK⟩
  rw [← ew]
  exact pk_nc _
theorem w_coder26 {E : ME} {d : Nat} {h : MH} {K : MK} (hK : K (some (.int 0)) h) : mCall E d nJ0_coder_7d493 [.ref 1036] h K := by
  refine mCall_sem MJ0_coder_7d493 rfl rfl (Or.inl ⟨rfl, rfl, rfl⟩) rfl (mSem_wp MJ0_coder_7d493 rfl aJ0_coder_7d493 300 [] (fun cl ax hcl hax => ?_))
  refine ⟨fun h9 => absurd h9 (by decide), fun _ => ?_⟩
  exact ⟨rfl, hK⟩
theorem w_latin26 {E : ME} {d : Nat} {h : MH} {K : MK} (hK : K (some (.int 1)) h) : mCall E d nJ0_isLatin1_aae02 [.ref 1036] h K := by
  refine mCall_sem MJ0_isLatin1_aae02 rfl rfl (Or.inl ⟨rfl, rfl, rfl⟩) rfl (mSem_wp MJ0_isLatin1_aae02 rfl aJ0_isLatin1_aae02 300 [] (fun cl ax hcl hax => ?_))
  refine ⟨fun h9 => absurd h9 (by decide), fun _ => ?_⟩
  refine ⟨fun h9 => absurd h9 (by decide), fun _ => ?_⟩
  exact ⟨rfl, hK⟩
theorem w_len26 {E : ME} {d : Nat} {h : MH} {K : MK} (hK : K (some (.int (nI 5))) h) : mCall E (d + 1) nJ0_length_8abf5 [.ref 1036] h K := by
  have e : nI 5 >>> ((0 : Int32) &&& 31) = nI 5 := by decide
  rw [← e] at hK
  refine mCall_sem MJ0_length_8abf5 rfl rfl (Or.inl ⟨rfl, rfl, rfl⟩) rfl (mSem_wp MJ0_length_8abf5 rfl aJ0_length_8abf5 300 [] (fun cl ax hcl hax => ?_))
  refine hcl _ _ _ _ (w_coder26 ?_)
  exact hK
theorem w_jchar26 {E : ME} {d : Nat} {h : MH} {K : MK} (j : Nat) (hj : j < 5) (hK : K (some (.int (w_stake.getD j 0))) h) : mCall E (d + 2) nJ1_charAt_3b067 [.ref 1076, .int (nI j)] h K := by
  have e8 : (nI j).toNatClampNeg = j := nI_clamp (by omega)
  have ew : ((w_stake.getD j 0 &&& 255).toUInt32 % 65536).toInt32 = w_stake.getD j 0 := (show ∀ j, j < 5 → ((w_stake.getD j 0 &&& 255).toUInt32 % 65536).toInt32 = w_stake.getD j 0 by decide) j hj
  rw [← ew] at hK
  refine mCall_sem MJ1_charAt_3b067 rfl rfl (Or.inl ⟨rfl, rfl, rfl⟩) rfl (mSem_wp MJ1_charAt_3b067 rfl aJ1_charAt_3b067 300 [] (fun cl ax hcl hax => ?_))
  refine hcl _ _ _ _ (w_check (L := 5) hj (by decide) ?_)
  refine ⟨vp_in_nI (N := 5) hj (by decide), ?_⟩
  refine ⟨pk_nc _, ?_⟩
  rw [e8]
  exact hK
theorem w_char26 {E : ME} {d : Nat} {h : MH} {K : MK} (j : Nat) (hj : j < 5) (hK : K (some (.int (w_stake.getD j 0))) h) : mCall E (d + 3) nJ0_charAt_5068e [.ref 1036, .int (nI j)] h K := by
  have ew : ((w_stake.getD j 0 &&& 255).toUInt32 % 65536).toInt32 = w_stake.getD j 0 := (show ∀ j, j < 5 → ((w_stake.getD j 0 &&& 255).toUInt32 % 65536).toInt32 = w_stake.getD j 0 by decide) j hj
  refine mCall_sem MJ0_charAt_5068e rfl rfl (Or.inl ⟨rfl, rfl, rfl⟩) rfl (mSem_wp MJ0_charAt_5068e rfl aJ0_charAt_5068e 300 [] (fun cl ax hcl hax => ?_))
  refine hcl _ _ _ _ (w_latin26 ?_)
  refine ⟨fun h9 => absurd h9 (by decide), fun _ => ?_⟩
  refine hcl _ _ _ _ (w_jchar26 j hj ?_)
  refine ⟨?_, hK⟩
  rw [← ew]
  exact pk_nc _
theorem w_coder4 {E : ME} {d : Nat} {h : MH} {K : MK} (hK : K (some (.int 0)) h) : mCall E d nJ0_coder_7d493 [.ref 1014] h K := by
  refine mCall_sem MJ0_coder_7d493 rfl rfl (Or.inl ⟨rfl, rfl, rfl⟩) rfl (mSem_wp MJ0_coder_7d493 rfl aJ0_coder_7d493 300 [] (fun cl ax hcl hax => ?_))
  refine ⟨fun h9 => absurd h9 (by decide), fun _ => ?_⟩
  exact ⟨rfl, hK⟩
theorem w_latin4 {E : ME} {d : Nat} {h : MH} {K : MK} (hK : K (some (.int 1)) h) : mCall E d nJ0_isLatin1_aae02 [.ref 1014] h K := by
  refine mCall_sem MJ0_isLatin1_aae02 rfl rfl (Or.inl ⟨rfl, rfl, rfl⟩) rfl (mSem_wp MJ0_isLatin1_aae02 rfl aJ0_isLatin1_aae02 300 [] (fun cl ax hcl hax => ?_))
  refine ⟨fun h9 => absurd h9 (by decide), fun _ => ?_⟩
  refine ⟨fun h9 => absurd h9 (by decide), fun _ => ?_⟩
  exact ⟨rfl, hK⟩
theorem w_len4 {E : ME} {d : Nat} {h : MH} {K : MK} (hK : K (some (.int (nI 4))) h) : mCall E (d + 1) nJ0_length_8abf5 [.ref 1014] h K := by
  have e : nI 4 >>> ((0 : Int32) &&& 31) = nI 4 := by decide
  rw [← e] at hK
  refine mCall_sem MJ0_length_8abf5 rfl rfl (Or.inl ⟨rfl, rfl, rfl⟩) rfl (mSem_wp MJ0_length_8abf5 rfl aJ0_length_8abf5 300 [] (fun cl ax hcl hax => ?_))
  refine hcl _ _ _ _ (w_coder4 ?_)
  exact hK
theorem w_jchar4 {E : ME} {d : Nat} {h : MH} {K : MK} (j : Nat) (hj : j < 4) (hK : K (some (.int (w_from.getD j 0))) h) : mCall E (d + 2) nJ1_charAt_3b067 [.ref 1054, .int (nI j)] h K := by
  have e8 : (nI j).toNatClampNeg = j := nI_clamp (by omega)
  have ew : ((w_from.getD j 0 &&& 255).toUInt32 % 65536).toInt32 = w_from.getD j 0 := (show ∀ j, j < 4 → ((w_from.getD j 0 &&& 255).toUInt32 % 65536).toInt32 = w_from.getD j 0 by decide) j hj
  rw [← ew] at hK
  refine mCall_sem MJ1_charAt_3b067 rfl rfl (Or.inl ⟨rfl, rfl, rfl⟩) rfl (mSem_wp MJ1_charAt_3b067 rfl aJ1_charAt_3b067 300 [] (fun cl ax hcl hax => ?_))
  refine hcl _ _ _ _ (w_check (L := 4) hj (by decide) ?_)
  refine ⟨vp_in_nI (N := 4) hj (by decide), ?_⟩
  refine ⟨pk_nc _, ?_⟩
  rw [e8]
  exact hK
theorem w_char4 {E : ME} {d : Nat} {h : MH} {K : MK} (j : Nat) (hj : j < 4) (hK : K (some (.int (w_from.getD j 0))) h) : mCall E (d + 3) nJ0_charAt_5068e [.ref 1014, .int (nI j)] h K := by
  have ew : ((w_from.getD j 0 &&& 255).toUInt32 % 65536).toInt32 = w_from.getD j 0 := (show ∀ j, j < 4 → ((w_from.getD j 0 &&& 255).toUInt32 % 65536).toInt32 = w_from.getD j 0 by decide) j hj
  refine mCall_sem MJ0_charAt_5068e rfl rfl (Or.inl ⟨rfl, rfl, rfl⟩) rfl (mSem_wp MJ0_charAt_5068e rfl aJ0_charAt_5068e 300 [] (fun cl ax hcl hax => ?_))
  refine hcl _ _ _ _ (w_latin4 ?_)
  refine ⟨fun h9 => absurd h9 (by decide), fun _ => ?_⟩
  refine hcl _ _ _ _ (w_jchar4 j hj ?_)
  refine ⟨?_, hK⟩
  rw [← ew]
  exact pk_nc _
theorem w_coder27 {E : ME} {d : Nat} {h : MH} {K : MK} (hK : K (some (.int 0)) h) : mCall E d nJ0_coder_7d493 [.ref 1037] h K := by
  refine mCall_sem MJ0_coder_7d493 rfl rfl (Or.inl ⟨rfl, rfl, rfl⟩) rfl (mSem_wp MJ0_coder_7d493 rfl aJ0_coder_7d493 300 [] (fun cl ax hcl hax => ?_))
  refine ⟨fun h9 => absurd h9 (by decide), fun _ => ?_⟩
  exact ⟨rfl, hK⟩
theorem w_latin27 {E : ME} {d : Nat} {h : MH} {K : MK} (hK : K (some (.int 1)) h) : mCall E d nJ0_isLatin1_aae02 [.ref 1037] h K := by
  refine mCall_sem MJ0_isLatin1_aae02 rfl rfl (Or.inl ⟨rfl, rfl, rfl⟩) rfl (mSem_wp MJ0_isLatin1_aae02 rfl aJ0_isLatin1_aae02 300 [] (fun cl ax hcl hax => ?_))
  refine ⟨fun h9 => absurd h9 (by decide), fun _ => ?_⟩
  refine ⟨fun h9 => absurd h9 (by decide), fun _ => ?_⟩
  exact ⟨rfl, hK⟩
theorem w_len27 {E : ME} {d : Nat} {h : MH} {K : MK} (hK : K (some (.int (nI 4))) h) : mCall E (d + 1) nJ0_length_8abf5 [.ref 1037] h K := by
  have e : nI 4 >>> ((0 : Int32) &&& 31) = nI 4 := by decide
  rw [← e] at hK
  refine mCall_sem MJ0_length_8abf5 rfl rfl (Or.inl ⟨rfl, rfl, rfl⟩) rfl (mSem_wp MJ0_length_8abf5 rfl aJ0_length_8abf5 300 [] (fun cl ax hcl hax => ?_))
  refine hcl _ _ _ _ (w_coder27 ?_)
  exact hK
theorem w_jchar27 {E : ME} {d : Nat} {h : MH} {K : MK} (j : Nat) (hj : j < 4) (hK : K (some (.int (w_from.getD j 0))) h) : mCall E (d + 2) nJ1_charAt_3b067 [.ref 1077, .int (nI j)] h K := by
  have e8 : (nI j).toNatClampNeg = j := nI_clamp (by omega)
  have ew : ((w_from.getD j 0 &&& 255).toUInt32 % 65536).toInt32 = w_from.getD j 0 := (show ∀ j, j < 4 → ((w_from.getD j 0 &&& 255).toUInt32 % 65536).toInt32 = w_from.getD j 0 by decide) j hj
  rw [← ew] at hK
  refine mCall_sem MJ1_charAt_3b067 rfl rfl (Or.inl ⟨rfl, rfl, rfl⟩) rfl (mSem_wp MJ1_charAt_3b067 rfl aJ1_charAt_3b067 300 [] (fun cl ax hcl hax => ?_))
  refine hcl _ _ _ _ (w_check (L := 4) hj (by decide) ?_)
  refine ⟨vp_in_nI (N := 4) hj (by decide), ?_⟩
  refine ⟨pk_nc _, ?_⟩
  rw [e8]
  exact hK
theorem w_char27 {E : ME} {d : Nat} {h : MH} {K : MK} (j : Nat) (hj : j < 4) (hK : K (some (.int (w_from.getD j 0))) h) : mCall E (d + 3) nJ0_charAt_5068e [.ref 1037, .int (nI j)] h K := by
  have ew : ((w_from.getD j 0 &&& 255).toUInt32 % 65536).toInt32 = w_from.getD j 0 := (show ∀ j, j < 4 → ((w_from.getD j 0 &&& 255).toUInt32 % 65536).toInt32 = w_from.getD j 0 by decide) j hj
  refine mCall_sem MJ0_charAt_5068e rfl rfl (Or.inl ⟨rfl, rfl, rfl⟩) rfl (mSem_wp MJ0_charAt_5068e rfl aJ0_charAt_5068e 300 [] (fun cl ax hcl hax => ?_))
  refine hcl _ _ _ _ (w_latin27 ?_)
  refine ⟨fun h9 => absurd h9 (by decide), fun _ => ?_⟩
  refine hcl _ _ _ _ (w_jchar27 j hj ?_)
  refine ⟨?_, hK⟩
  rw [← ew]
  exact pk_nc _
theorem w_coder5 {E : ME} {d : Nat} {h : MH} {K : MK} (hK : K (some (.int 0)) h) : mCall E d nJ0_coder_7d493 [.ref 1015] h K := by
  refine mCall_sem MJ0_coder_7d493 rfl rfl (Or.inl ⟨rfl, rfl, rfl⟩) rfl (mSem_wp MJ0_coder_7d493 rfl aJ0_coder_7d493 300 [] (fun cl ax hcl hax => ?_))
  refine ⟨fun h9 => absurd h9 (by decide), fun _ => ?_⟩
  exact ⟨rfl, hK⟩
theorem w_latin5 {E : ME} {d : Nat} {h : MH} {K : MK} (hK : K (some (.int 1)) h) : mCall E d nJ0_isLatin1_aae02 [.ref 1015] h K := by
  refine mCall_sem MJ0_isLatin1_aae02 rfl rfl (Or.inl ⟨rfl, rfl, rfl⟩) rfl (mSem_wp MJ0_isLatin1_aae02 rfl aJ0_isLatin1_aae02 300 [] (fun cl ax hcl hax => ?_))
  refine ⟨fun h9 => absurd h9 (by decide), fun _ => ?_⟩
  refine ⟨fun h9 => absurd h9 (by decide), fun _ => ?_⟩
  exact ⟨rfl, hK⟩
theorem w_len5 {E : ME} {d : Nat} {h : MH} {K : MK} (hK : K (some (.int (nI 3))) h) : mCall E (d + 1) nJ0_length_8abf5 [.ref 1015] h K := by
  have e : nI 3 >>> ((0 : Int32) &&& 31) = nI 3 := by decide
  rw [← e] at hK
  refine mCall_sem MJ0_length_8abf5 rfl rfl (Or.inl ⟨rfl, rfl, rfl⟩) rfl (mSem_wp MJ0_length_8abf5 rfl aJ0_length_8abf5 300 [] (fun cl ax hcl hax => ?_))
  refine hcl _ _ _ _ (w_coder5 ?_)
  exact hK
theorem w_jchar5 {E : ME} {d : Nat} {h : MH} {K : MK} (j : Nat) (hj : j < 3) (hK : K (some (.int (w_for.getD j 0))) h) : mCall E (d + 2) nJ1_charAt_3b067 [.ref 1055, .int (nI j)] h K := by
  have e8 : (nI j).toNatClampNeg = j := nI_clamp (by omega)
  have ew : ((w_for.getD j 0 &&& 255).toUInt32 % 65536).toInt32 = w_for.getD j 0 := (show ∀ j, j < 3 → ((w_for.getD j 0 &&& 255).toUInt32 % 65536).toInt32 = w_for.getD j 0 by decide) j hj
  rw [← ew] at hK
  refine mCall_sem MJ1_charAt_3b067 rfl rfl (Or.inl ⟨rfl, rfl, rfl⟩) rfl (mSem_wp MJ1_charAt_3b067 rfl aJ1_charAt_3b067 300 [] (fun cl ax hcl hax => ?_))
  refine hcl _ _ _ _ (w_check (L := 3) hj (by decide) ?_)
  refine ⟨vp_in_nI (N := 3) hj (by decide), ?_⟩
  refine ⟨pk_nc _, ?_⟩
  rw [e8]
  exact hK
theorem w_char5 {E : ME} {d : Nat} {h : MH} {K : MK} (j : Nat) (hj : j < 3) (hK : K (some (.int (w_for.getD j 0))) h) : mCall E (d + 3) nJ0_charAt_5068e [.ref 1015, .int (nI j)] h K := by
  have ew : ((w_for.getD j 0 &&& 255).toUInt32 % 65536).toInt32 = w_for.getD j 0 := (show ∀ j, j < 3 → ((w_for.getD j 0 &&& 255).toUInt32 % 65536).toInt32 = w_for.getD j 0 by decide) j hj
  refine mCall_sem MJ0_charAt_5068e rfl rfl (Or.inl ⟨rfl, rfl, rfl⟩) rfl (mSem_wp MJ0_charAt_5068e rfl aJ0_charAt_5068e 300 [] (fun cl ax hcl hax => ?_))
  refine hcl _ _ _ _ (w_latin5 ?_)
  refine ⟨fun h9 => absurd h9 (by decide), fun _ => ?_⟩
  refine hcl _ _ _ _ (w_jchar5 j hj ?_)
  refine ⟨?_, hK⟩
  rw [← ew]
  exact pk_nc _
theorem w_coder28 {E : ME} {d : Nat} {h : MH} {K : MK} (hK : K (some (.int 0)) h) : mCall E d nJ0_coder_7d493 [.ref 1038] h K := by
  refine mCall_sem MJ0_coder_7d493 rfl rfl (Or.inl ⟨rfl, rfl, rfl⟩) rfl (mSem_wp MJ0_coder_7d493 rfl aJ0_coder_7d493 300 [] (fun cl ax hcl hax => ?_))
  refine ⟨fun h9 => absurd h9 (by decide), fun _ => ?_⟩
  exact ⟨rfl, hK⟩
theorem w_latin28 {E : ME} {d : Nat} {h : MH} {K : MK} (hK : K (some (.int 1)) h) : mCall E d nJ0_isLatin1_aae02 [.ref 1038] h K := by
  refine mCall_sem MJ0_isLatin1_aae02 rfl rfl (Or.inl ⟨rfl, rfl, rfl⟩) rfl (mSem_wp MJ0_isLatin1_aae02 rfl aJ0_isLatin1_aae02 300 [] (fun cl ax hcl hax => ?_))
  refine ⟨fun h9 => absurd h9 (by decide), fun _ => ?_⟩
  refine ⟨fun h9 => absurd h9 (by decide), fun _ => ?_⟩
  exact ⟨rfl, hK⟩
theorem w_len28 {E : ME} {d : Nat} {h : MH} {K : MK} (hK : K (some (.int (nI 3))) h) : mCall E (d + 1) nJ0_length_8abf5 [.ref 1038] h K := by
  have e : nI 3 >>> ((0 : Int32) &&& 31) = nI 3 := by decide
  rw [← e] at hK
  refine mCall_sem MJ0_length_8abf5 rfl rfl (Or.inl ⟨rfl, rfl, rfl⟩) rfl (mSem_wp MJ0_length_8abf5 rfl aJ0_length_8abf5 300 [] (fun cl ax hcl hax => ?_))
  refine hcl _ _ _ _ (w_coder28 ?_)
  exact hK
theorem w_jchar28 {E : ME} {d : Nat} {h : MH} {K : MK} (j : Nat) (hj : j < 3) (hK : K (some (.int (w_for.getD j 0))) h) : mCall E (d + 2) nJ1_charAt_3b067 [.ref 1078, .int (nI j)] h K := by
  have e8 : (nI j).toNatClampNeg = j := nI_clamp (by omega)
  have ew : ((w_for.getD j 0 &&& 255).toUInt32 % 65536).toInt32 = w_for.getD j 0 := (show ∀ j, j < 3 → ((w_for.getD j 0 &&& 255).toUInt32 % 65536).toInt32 = w_for.getD j 0 by decide) j hj
  rw [← ew] at hK
  refine mCall_sem MJ1_charAt_3b067 rfl rfl (Or.inl ⟨rfl, rfl, rfl⟩) rfl (mSem_wp MJ1_charAt_3b067 rfl aJ1_charAt_3b067 300 [] (fun cl ax hcl hax => ?_))
  refine hcl _ _ _ _ (w_check (L := 3) hj (by decide) ?_)
  refine ⟨vp_in_nI (N := 3) hj (by decide), ?_⟩
  refine ⟨pk_nc _, ?_⟩
  rw [e8]
  exact hK
theorem w_char28 {E : ME} {d : Nat} {h : MH} {K : MK} (j : Nat) (hj : j < 3) (hK : K (some (.int (w_for.getD j 0))) h) : mCall E (d + 3) nJ0_charAt_5068e [.ref 1038, .int (nI j)] h K := by
  have ew : ((w_for.getD j 0 &&& 255).toUInt32 % 65536).toInt32 = w_for.getD j 0 := (show ∀ j, j < 3 → ((w_for.getD j 0 &&& 255).toUInt32 % 65536).toInt32 = w_for.getD j 0 by decide) j hj
  refine mCall_sem MJ0_charAt_5068e rfl rfl (Or.inl ⟨rfl, rfl, rfl⟩) rfl (mSem_wp MJ0_charAt_5068e rfl aJ0_charAt_5068e 300 [] (fun cl ax hcl hax => ?_))
  refine hcl _ _ _ _ (w_latin28 ?_)
  refine ⟨fun h9 => absurd h9 (by decide), fun _ => ?_⟩
  refine hcl _ _ _ _ (w_jchar28 j hj ?_)
  refine ⟨?_, hK⟩
  rw [← ew]
  exact pk_nc _
theorem w_coder6 {E : ME} {d : Nat} {h : MH} {K : MK} (hK : K (some (.int 0)) h) : mCall E d nJ0_coder_7d493 [.ref 1016] h K := by
  refine mCall_sem MJ0_coder_7d493 rfl rfl (Or.inl ⟨rfl, rfl, rfl⟩) rfl (mSem_wp MJ0_coder_7d493 rfl aJ0_coder_7d493 300 [] (fun cl ax hcl hax => ?_))
  refine ⟨fun h9 => absurd h9 (by decide), fun _ => ?_⟩
  exact ⟨rfl, hK⟩
theorem w_latin6 {E : ME} {d : Nat} {h : MH} {K : MK} (hK : K (some (.int 1)) h) : mCall E d nJ0_isLatin1_aae02 [.ref 1016] h K := by
  refine mCall_sem MJ0_isLatin1_aae02 rfl rfl (Or.inl ⟨rfl, rfl, rfl⟩) rfl (mSem_wp MJ0_isLatin1_aae02 rfl aJ0_isLatin1_aae02 300 [] (fun cl ax hcl hax => ?_))
  refine ⟨fun h9 => absurd h9 (by decide), fun _ => ?_⟩
  refine ⟨fun h9 => absurd h9 (by decide), fun _ => ?_⟩
  exact ⟨rfl, hK⟩
theorem w_len6 {E : ME} {d : Nat} {h : MH} {K : MK} (hK : K (some (.int (nI 4))) h) : mCall E (d + 1) nJ0_length_8abf5 [.ref 1016] h K := by
  have e : nI 4 >>> ((0 : Int32) &&& 31) = nI 4 := by decide
  rw [← e] at hK
  refine mCall_sem MJ0_length_8abf5 rfl rfl (Or.inl ⟨rfl, rfl, rfl⟩) rfl (mSem_wp MJ0_length_8abf5 rfl aJ0_length_8abf5 300 [] (fun cl ax hcl hax => ?_))
  refine hcl _ _ _ _ (w_coder6 ?_)
  exact hK
theorem w_jchar6 {E : ME} {d : Nat} {h : MH} {K : MK} (j : Nat) (hj : j < 4) (hK : K (some (.int (w_went.getD j 0))) h) : mCall E (d + 2) nJ1_charAt_3b067 [.ref 1056, .int (nI j)] h K := by
  have e8 : (nI j).toNatClampNeg = j := nI_clamp (by omega)
  have ew : ((w_went.getD j 0 &&& 255).toUInt32 % 65536).toInt32 = w_went.getD j 0 := (show ∀ j, j < 4 → ((w_went.getD j 0 &&& 255).toUInt32 % 65536).toInt32 = w_went.getD j 0 by decide) j hj
  rw [← ew] at hK
  refine mCall_sem MJ1_charAt_3b067 rfl rfl (Or.inl ⟨rfl, rfl, rfl⟩) rfl (mSem_wp MJ1_charAt_3b067 rfl aJ1_charAt_3b067 300 [] (fun cl ax hcl hax => ?_))
  refine hcl _ _ _ _ (w_check (L := 4) hj (by decide) ?_)
  refine ⟨vp_in_nI (N := 4) hj (by decide), ?_⟩
  refine ⟨pk_nc _, ?_⟩
  rw [e8]
  exact hK
theorem w_char6 {E : ME} {d : Nat} {h : MH} {K : MK} (j : Nat) (hj : j < 4) (hK : K (some (.int (w_went.getD j 0))) h) : mCall E (d + 3) nJ0_charAt_5068e [.ref 1016, .int (nI j)] h K := by
  have ew : ((w_went.getD j 0 &&& 255).toUInt32 % 65536).toInt32 = w_went.getD j 0 := (show ∀ j, j < 4 → ((w_went.getD j 0 &&& 255).toUInt32 % 65536).toInt32 = w_went.getD j 0 by decide) j hj
  refine mCall_sem MJ0_charAt_5068e rfl rfl (Or.inl ⟨rfl, rfl, rfl⟩) rfl (mSem_wp MJ0_charAt_5068e rfl aJ0_charAt_5068e 300 [] (fun cl ax hcl hax => ?_))
  refine hcl _ _ _ _ (w_latin6 ?_)
  refine ⟨fun h9 => absurd h9 (by decide), fun _ => ?_⟩
  refine hcl _ _ _ _ (w_jchar6 j hj ?_)
  refine ⟨?_, hK⟩
  rw [← ew]
  exact pk_nc _
theorem w_coder29 {E : ME} {d : Nat} {h : MH} {K : MK} (hK : K (some (.int 0)) h) : mCall E d nJ0_coder_7d493 [.ref 1039] h K := by
  refine mCall_sem MJ0_coder_7d493 rfl rfl (Or.inl ⟨rfl, rfl, rfl⟩) rfl (mSem_wp MJ0_coder_7d493 rfl aJ0_coder_7d493 300 [] (fun cl ax hcl hax => ?_))
  refine ⟨fun h9 => absurd h9 (by decide), fun _ => ?_⟩
  exact ⟨rfl, hK⟩
theorem w_latin29 {E : ME} {d : Nat} {h : MH} {K : MK} (hK : K (some (.int 1)) h) : mCall E d nJ0_isLatin1_aae02 [.ref 1039] h K := by
  refine mCall_sem MJ0_isLatin1_aae02 rfl rfl (Or.inl ⟨rfl, rfl, rfl⟩) rfl (mSem_wp MJ0_isLatin1_aae02 rfl aJ0_isLatin1_aae02 300 [] (fun cl ax hcl hax => ?_))
  refine ⟨fun h9 => absurd h9 (by decide), fun _ => ?_⟩
  refine ⟨fun h9 => absurd h9 (by decide), fun _ => ?_⟩
  exact ⟨rfl, hK⟩
theorem w_len29 {E : ME} {d : Nat} {h : MH} {K : MK} (hK : K (some (.int (nI 4))) h) : mCall E (d + 1) nJ0_length_8abf5 [.ref 1039] h K := by
  have e : nI 4 >>> ((0 : Int32) &&& 31) = nI 4 := by decide
  rw [← e] at hK
  refine mCall_sem MJ0_length_8abf5 rfl rfl (Or.inl ⟨rfl, rfl, rfl⟩) rfl (mSem_wp MJ0_length_8abf5 rfl aJ0_length_8abf5 300 [] (fun cl ax hcl hax => ?_))
  refine hcl _ _ _ _ (w_coder29 ?_)
  exact hK
theorem w_jchar29 {E : ME} {d : Nat} {h : MH} {K : MK} (j : Nat) (hj : j < 4) (hK : K (some (.int (w_went.getD j 0))) h) : mCall E (d + 2) nJ1_charAt_3b067 [.ref 1079, .int (nI j)] h K := by
  have e8 : (nI j).toNatClampNeg = j := nI_clamp (by omega)
  have ew : ((w_went.getD j 0 &&& 255).toUInt32 % 65536).toInt32 = w_went.getD j 0 := (show ∀ j, j < 4 → ((w_went.getD j 0 &&& 255).toUInt32 % 65536).toInt32 = w_went.getD j 0 by decide) j hj
  rw [← ew] at hK
  refine mCall_sem MJ1_charAt_3b067 rfl rfl (Or.inl ⟨rfl, rfl, rfl⟩) rfl (mSem_wp MJ1_charAt_3b067 rfl aJ1_charAt_3b067 300 [] (fun cl ax hcl hax => ?_))
  refine hcl _ _ _ _ (w_check (L := 4) hj (by decide) ?_)
  refine ⟨vp_in_nI (N := 4) hj (by decide), ?_⟩
  refine ⟨pk_nc _, ?_⟩
  rw [e8]
  exact hK
theorem w_char29 {E : ME} {d : Nat} {h : MH} {K : MK} (j : Nat) (hj : j < 4) (hK : K (some (.int (w_went.getD j 0))) h) : mCall E (d + 3) nJ0_charAt_5068e [.ref 1039, .int (nI j)] h K := by
  have ew : ((w_went.getD j 0 &&& 255).toUInt32 % 65536).toInt32 = w_went.getD j 0 := (show ∀ j, j < 4 → ((w_went.getD j 0 &&& 255).toUInt32 % 65536).toInt32 = w_went.getD j 0 by decide) j hj
  refine mCall_sem MJ0_charAt_5068e rfl rfl (Or.inl ⟨rfl, rfl, rfl⟩) rfl (mSem_wp MJ0_charAt_5068e rfl aJ0_charAt_5068e 300 [] (fun cl ax hcl hax => ?_))
  refine hcl _ _ _ _ (w_latin29 ?_)
  refine ⟨fun h9 => absurd h9 (by decide), fun _ => ?_⟩
  refine hcl _ _ _ _ (w_jchar29 j hj ?_)
  refine ⟨?_, hK⟩
  rw [← ew]
  exact pk_nc _
theorem w_coder7 {E : ME} {d : Nat} {h : MH} {K : MK} (hK : K (some (.int 0)) h) : mCall E d nJ0_coder_7d493 [.ref 1017] h K := by
  refine mCall_sem MJ0_coder_7d493 rfl rfl (Or.inl ⟨rfl, rfl, rfl⟩) rfl (mSem_wp MJ0_coder_7d493 rfl aJ0_coder_7d493 300 [] (fun cl ax hcl hax => ?_))
  refine ⟨fun h9 => absurd h9 (by decide), fun _ => ?_⟩
  exact ⟨rfl, hK⟩
theorem w_latin7 {E : ME} {d : Nat} {h : MH} {K : MK} (hK : K (some (.int 1)) h) : mCall E d nJ0_isLatin1_aae02 [.ref 1017] h K := by
  refine mCall_sem MJ0_isLatin1_aae02 rfl rfl (Or.inl ⟨rfl, rfl, rfl⟩) rfl (mSem_wp MJ0_isLatin1_aae02 rfl aJ0_isLatin1_aae02 300 [] (fun cl ax hcl hax => ?_))
  refine ⟨fun h9 => absurd h9 (by decide), fun _ => ?_⟩
  refine ⟨fun h9 => absurd h9 (by decide), fun _ => ?_⟩
  exact ⟨rfl, hK⟩
theorem w_len7 {E : ME} {d : Nat} {h : MH} {K : MK} (hK : K (some (.int (nI 5))) h) : mCall E (d + 1) nJ0_length_8abf5 [.ref 1017] h K := by
  have e : nI 5 >>> ((0 : Int32) &&& 31) = nI 5 := by decide
  rw [← e] at hK
  refine mCall_sem MJ0_length_8abf5 rfl rfl (Or.inl ⟨rfl, rfl, rfl⟩) rfl (mSem_wp MJ0_length_8abf5 rfl aJ0_length_8abf5 300 [] (fun cl ax hcl hax => ?_))
  refine hcl _ _ _ _ (w_coder7 ?_)
  exact hK
theorem w_jchar7 {E : ME} {d : Nat} {h : MH} {K : MK} (j : Nat) (hj : j < 5) (hK : K (some (.int (w_roped.getD j 0))) h) : mCall E (d + 2) nJ1_charAt_3b067 [.ref 1057, .int (nI j)] h K := by
  have e8 : (nI j).toNatClampNeg = j := nI_clamp (by omega)
  have ew : ((w_roped.getD j 0 &&& 255).toUInt32 % 65536).toInt32 = w_roped.getD j 0 := (show ∀ j, j < 5 → ((w_roped.getD j 0 &&& 255).toUInt32 % 65536).toInt32 = w_roped.getD j 0 by decide) j hj
  rw [← ew] at hK
  refine mCall_sem MJ1_charAt_3b067 rfl rfl (Or.inl ⟨rfl, rfl, rfl⟩) rfl (mSem_wp MJ1_charAt_3b067 rfl aJ1_charAt_3b067 300 [] (fun cl ax hcl hax => ?_))
  refine hcl _ _ _ _ (w_check (L := 5) hj (by decide) ?_)
  refine ⟨vp_in_nI (N := 5) hj (by decide), ?_⟩
  refine ⟨pk_nc _, ?_⟩
  rw [e8]
  exact hK
theorem w_char7 {E : ME} {d : Nat} {h : MH} {K : MK} (j : Nat) (hj : j < 5) (hK : K (some (.int (w_roped.getD j 0))) h) : mCall E (d + 3) nJ0_charAt_5068e [.ref 1017, .int (nI j)] h K := by
  have ew : ((w_roped.getD j 0 &&& 255).toUInt32 % 65536).toInt32 = w_roped.getD j 0 := (show ∀ j, j < 5 → ((w_roped.getD j 0 &&& 255).toUInt32 % 65536).toInt32 = w_roped.getD j 0 by decide) j hj
  refine mCall_sem MJ0_charAt_5068e rfl rfl (Or.inl ⟨rfl, rfl, rfl⟩) rfl (mSem_wp MJ0_charAt_5068e rfl aJ0_charAt_5068e 300 [] (fun cl ax hcl hax => ?_))
  refine hcl _ _ _ _ (w_latin7 ?_)
  refine ⟨fun h9 => absurd h9 (by decide), fun _ => ?_⟩
  refine hcl _ _ _ _ (w_jchar7 j hj ?_)
  refine ⟨?_, hK⟩
  rw [← ew]
  exact pk_nc _
theorem w_coder16 {E : ME} {d : Nat} {h : MH} {K : MK} (hK : K (some (.int 0)) h) : mCall E d nJ0_coder_7d493 [.ref 1026] h K := by
  refine mCall_sem MJ0_coder_7d493 rfl rfl (Or.inl ⟨rfl, rfl, rfl⟩) rfl (mSem_wp MJ0_coder_7d493 rfl aJ0_coder_7d493 300 [] (fun cl ax hcl hax => ?_))
  refine ⟨fun h9 => absurd h9 (by decide), fun _ => ?_⟩
  exact ⟨rfl, hK⟩
theorem w_latin16 {E : ME} {d : Nat} {h : MH} {K : MK} (hK : K (some (.int 1)) h) : mCall E d nJ0_isLatin1_aae02 [.ref 1026] h K := by
  refine mCall_sem MJ0_isLatin1_aae02 rfl rfl (Or.inl ⟨rfl, rfl, rfl⟩) rfl (mSem_wp MJ0_isLatin1_aae02 rfl aJ0_isLatin1_aae02 300 [] (fun cl ax hcl hax => ?_))
  refine ⟨fun h9 => absurd h9 (by decide), fun _ => ?_⟩
  refine ⟨fun h9 => absurd h9 (by decide), fun _ => ?_⟩
  exact ⟨rfl, hK⟩
theorem w_len16 {E : ME} {d : Nat} {h : MH} {K : MK} (hK : K (some (.int (nI 5))) h) : mCall E (d + 1) nJ0_length_8abf5 [.ref 1026] h K := by
  have e : nI 5 >>> ((0 : Int32) &&& 31) = nI 5 := by decide
  rw [← e] at hK
  refine mCall_sem MJ0_length_8abf5 rfl rfl (Or.inl ⟨rfl, rfl, rfl⟩) rfl (mSem_wp MJ0_length_8abf5 rfl aJ0_length_8abf5 300 [] (fun cl ax hcl hax => ?_))
  refine hcl _ _ _ _ (w_coder16 ?_)
  exact hK
theorem w_jchar16 {E : ME} {d : Nat} {h : MH} {K : MK} (j : Nat) (hj : j < 5) (hK : K (some (.int (w_roped.getD j 0))) h) : mCall E (d + 2) nJ1_charAt_3b067 [.ref 1066, .int (nI j)] h K := by
  have e8 : (nI j).toNatClampNeg = j := nI_clamp (by omega)
  have ew : ((w_roped.getD j 0 &&& 255).toUInt32 % 65536).toInt32 = w_roped.getD j 0 := (show ∀ j, j < 5 → ((w_roped.getD j 0 &&& 255).toUInt32 % 65536).toInt32 = w_roped.getD j 0 by decide) j hj
  rw [← ew] at hK
  refine mCall_sem MJ1_charAt_3b067 rfl rfl (Or.inl ⟨rfl, rfl, rfl⟩) rfl (mSem_wp MJ1_charAt_3b067 rfl aJ1_charAt_3b067 300 [] (fun cl ax hcl hax => ?_))
  refine hcl _ _ _ _ (w_check (L := 5) hj (by decide) ?_)
  refine ⟨vp_in_nI (N := 5) hj (by decide), ?_⟩
  refine ⟨pk_nc _, ?_⟩
  rw [e8]
  exact hK
theorem w_char16 {E : ME} {d : Nat} {h : MH} {K : MK} (j : Nat) (hj : j < 5) (hK : K (some (.int (w_roped.getD j 0))) h) : mCall E (d + 3) nJ0_charAt_5068e [.ref 1026, .int (nI j)] h K := by
  have ew : ((w_roped.getD j 0 &&& 255).toUInt32 % 65536).toInt32 = w_roped.getD j 0 := (show ∀ j, j < 5 → ((w_roped.getD j 0 &&& 255).toUInt32 % 65536).toInt32 = w_roped.getD j 0 by decide) j hj
  refine mCall_sem MJ0_charAt_5068e rfl rfl (Or.inl ⟨rfl, rfl, rfl⟩) rfl (mSem_wp MJ0_charAt_5068e rfl aJ0_charAt_5068e 300 [] (fun cl ax hcl hax => ?_))
  refine hcl _ _ _ _ (w_latin16 ?_)
  refine ⟨fun h9 => absurd h9 (by decide), fun _ => ?_⟩
  refine hcl _ _ _ _ (w_jchar16 j hj ?_)
  refine ⟨?_, hK⟩
  rw [← ew]
  exact pk_nc _
theorem w_coder8 {E : ME} {d : Nat} {h : MH} {K : MK} (hK : K (some (.int 0)) h) : mCall E d nJ0_coder_7d493 [.ref 1018] h K := by
  refine mCall_sem MJ0_coder_7d493 rfl rfl (Or.inl ⟨rfl, rfl, rfl⟩) rfl (mSem_wp MJ0_coder_7d493 rfl aJ0_coder_7d493 300 [] (fun cl ax hcl hax => ?_))
  refine ⟨fun h9 => absurd h9 (by decide), fun _ => ?_⟩
  exact ⟨rfl, hK⟩
theorem w_latin8 {E : ME} {d : Nat} {h : MH} {K : MK} (hK : K (some (.int 1)) h) : mCall E d nJ0_isLatin1_aae02 [.ref 1018] h K := by
  refine mCall_sem MJ0_isLatin1_aae02 rfl rfl (Or.inl ⟨rfl, rfl, rfl⟩) rfl (mSem_wp MJ0_isLatin1_aae02 rfl aJ0_isLatin1_aae02 300 [] (fun cl ax hcl hax => ?_))
  refine ⟨fun h9 => absurd h9 (by decide), fun _ => ?_⟩
  refine ⟨fun h9 => absurd h9 (by decide), fun _ => ?_⟩
  exact ⟨rfl, hK⟩
theorem w_len8 {E : ME} {d : Nat} {h : MH} {K : MK} (hK : K (some (.int (nI 6))) h) : mCall E (d + 1) nJ0_length_8abf5 [.ref 1018] h K := by
  have e : nI 6 >>> ((0 : Int32) &&& 31) = nI 6 := by decide
  rw [← e] at hK
  refine mCall_sem MJ0_length_8abf5 rfl rfl (Or.inl ⟨rfl, rfl, rfl⟩) rfl (mSem_wp MJ0_length_8abf5 rfl aJ0_length_8abf5 300 [] (fun cl ax hcl hax => ?_))
  refine hcl _ _ _ _ (w_coder8 ?_)
  exact hK
theorem w_jchar8 {E : ME} {d : Nat} {h : MH} {K : MK} (j : Nat) (hj : j < 6) (hK : K (some (.int (w_sledge.getD j 0))) h) : mCall E (d + 2) nJ1_charAt_3b067 [.ref 1058, .int (nI j)] h K := by
  have e8 : (nI j).toNatClampNeg = j := nI_clamp (by omega)
  have ew : ((w_sledge.getD j 0 &&& 255).toUInt32 % 65536).toInt32 = w_sledge.getD j 0 := (show ∀ j, j < 6 → ((w_sledge.getD j 0 &&& 255).toUInt32 % 65536).toInt32 = w_sledge.getD j 0 by decide) j hj
  rw [← ew] at hK
  refine mCall_sem MJ1_charAt_3b067 rfl rfl (Or.inl ⟨rfl, rfl, rfl⟩) rfl (mSem_wp MJ1_charAt_3b067 rfl aJ1_charAt_3b067 300 [] (fun cl ax hcl hax => ?_))
  refine hcl _ _ _ _ (w_check (L := 6) hj (by decide) ?_)
  refine ⟨vp_in_nI (N := 6) hj (by decide), ?_⟩
  refine ⟨pk_nc _, ?_⟩
  rw [e8]
  exact hK
theorem w_char8 {E : ME} {d : Nat} {h : MH} {K : MK} (j : Nat) (hj : j < 6) (hK : K (some (.int (w_sledge.getD j 0))) h) : mCall E (d + 3) nJ0_charAt_5068e [.ref 1018, .int (nI j)] h K := by
  have ew : ((w_sledge.getD j 0 &&& 255).toUInt32 % 65536).toInt32 = w_sledge.getD j 0 := (show ∀ j, j < 6 → ((w_sledge.getD j 0 &&& 255).toUInt32 % 65536).toInt32 = w_sledge.getD j 0 by decide) j hj
  refine mCall_sem MJ0_charAt_5068e rfl rfl (Or.inl ⟨rfl, rfl, rfl⟩) rfl (mSem_wp MJ0_charAt_5068e rfl aJ0_charAt_5068e 300 [] (fun cl ax hcl hax => ?_))
  refine hcl _ _ _ _ (w_latin8 ?_)
  refine ⟨fun h9 => absurd h9 (by decide), fun _ => ?_⟩
  refine hcl _ _ _ _ (w_jchar8 j hj ?_)
  refine ⟨?_, hK⟩
  rw [← ew]
  exact pk_nc _
theorem w_coder17 {E : ME} {d : Nat} {h : MH} {K : MK} (hK : K (some (.int 0)) h) : mCall E d nJ0_coder_7d493 [.ref 1027] h K := by
  refine mCall_sem MJ0_coder_7d493 rfl rfl (Or.inl ⟨rfl, rfl, rfl⟩) rfl (mSem_wp MJ0_coder_7d493 rfl aJ0_coder_7d493 300 [] (fun cl ax hcl hax => ?_))
  refine ⟨fun h9 => absurd h9 (by decide), fun _ => ?_⟩
  exact ⟨rfl, hK⟩
theorem w_latin17 {E : ME} {d : Nat} {h : MH} {K : MK} (hK : K (some (.int 1)) h) : mCall E d nJ0_isLatin1_aae02 [.ref 1027] h K := by
  refine mCall_sem MJ0_isLatin1_aae02 rfl rfl (Or.inl ⟨rfl, rfl, rfl⟩) rfl (mSem_wp MJ0_isLatin1_aae02 rfl aJ0_isLatin1_aae02 300 [] (fun cl ax hcl hax => ?_))
  refine ⟨fun h9 => absurd h9 (by decide), fun _ => ?_⟩
  refine ⟨fun h9 => absurd h9 (by decide), fun _ => ?_⟩
  exact ⟨rfl, hK⟩
theorem w_len17 {E : ME} {d : Nat} {h : MH} {K : MK} (hK : K (some (.int (nI 6))) h) : mCall E (d + 1) nJ0_length_8abf5 [.ref 1027] h K := by
  have e : nI 6 >>> ((0 : Int32) &&& 31) = nI 6 := by decide
  rw [← e] at hK
  refine mCall_sem MJ0_length_8abf5 rfl rfl (Or.inl ⟨rfl, rfl, rfl⟩) rfl (mSem_wp MJ0_length_8abf5 rfl aJ0_length_8abf5 300 [] (fun cl ax hcl hax => ?_))
  refine hcl _ _ _ _ (w_coder17 ?_)
  exact hK
theorem w_jchar17 {E : ME} {d : Nat} {h : MH} {K : MK} (j : Nat) (hj : j < 6) (hK : K (some (.int (w_sledge.getD j 0))) h) : mCall E (d + 2) nJ1_charAt_3b067 [.ref 1067, .int (nI j)] h K := by
  have e8 : (nI j).toNatClampNeg = j := nI_clamp (by omega)
  have ew : ((w_sledge.getD j 0 &&& 255).toUInt32 % 65536).toInt32 = w_sledge.getD j 0 := (show ∀ j, j < 6 → ((w_sledge.getD j 0 &&& 255).toUInt32 % 65536).toInt32 = w_sledge.getD j 0 by decide) j hj
  rw [← ew] at hK
  refine mCall_sem MJ1_charAt_3b067 rfl rfl (Or.inl ⟨rfl, rfl, rfl⟩) rfl (mSem_wp MJ1_charAt_3b067 rfl aJ1_charAt_3b067 300 [] (fun cl ax hcl hax => ?_))
  refine hcl _ _ _ _ (w_check (L := 6) hj (by decide) ?_)
  refine ⟨vp_in_nI (N := 6) hj (by decide), ?_⟩
  refine ⟨pk_nc _, ?_⟩
  rw [e8]
  exact hK
theorem w_char17 {E : ME} {d : Nat} {h : MH} {K : MK} (j : Nat) (hj : j < 6) (hK : K (some (.int (w_sledge.getD j 0))) h) : mCall E (d + 3) nJ0_charAt_5068e [.ref 1027, .int (nI j)] h K := by
  have ew : ((w_sledge.getD j 0 &&& 255).toUInt32 % 65536).toInt32 = w_sledge.getD j 0 := (show ∀ j, j < 6 → ((w_sledge.getD j 0 &&& 255).toUInt32 % 65536).toInt32 = w_sledge.getD j 0 by decide) j hj
  refine mCall_sem MJ0_charAt_5068e rfl rfl (Or.inl ⟨rfl, rfl, rfl⟩) rfl (mSem_wp MJ0_charAt_5068e rfl aJ0_charAt_5068e 300 [] (fun cl ax hcl hax => ?_))
  refine hcl _ _ _ _ (w_latin17 ?_)
  refine ⟨fun h9 => absurd h9 (by decide), fun _ => ?_⟩
  refine hcl _ _ _ _ (w_jchar17 j hj ?_)
  refine ⟨?_, hK⟩
  rw [← ew]
  exact pk_nc _
theorem w_coder9 {E : ME} {d : Nat} {h : MH} {K : MK} (hK : K (some (.int 0)) h) : mCall E d nJ0_coder_7d493 [.ref 1019] h K := by
  refine mCall_sem MJ0_coder_7d493 rfl rfl (Or.inl ⟨rfl, rfl, rfl⟩) rfl (mSem_wp MJ0_coder_7d493 rfl aJ0_coder_7d493 300 [] (fun cl ax hcl hax => ?_))
  refine ⟨fun h9 => absurd h9 (by decide), fun _ => ?_⟩
  exact ⟨rfl, hK⟩
theorem w_latin9 {E : ME} {d : Nat} {h : MH} {K : MK} (hK : K (some (.int 1)) h) : mCall E d nJ0_isLatin1_aae02 [.ref 1019] h K := by
  refine mCall_sem MJ0_isLatin1_aae02 rfl rfl (Or.inl ⟨rfl, rfl, rfl⟩) rfl (mSem_wp MJ0_isLatin1_aae02 rfl aJ0_isLatin1_aae02 300 [] (fun cl ax hcl hax => ?_))
  refine ⟨fun h9 => absurd h9 (by decide), fun _ => ?_⟩
  refine ⟨fun h9 => absurd h9 (by decide), fun _ => ?_⟩
  exact ⟨rfl, hK⟩
theorem w_len9 {E : ME} {d : Nat} {h : MH} {K : MK} (hK : K (some (.int (nI 6))) h) : mCall E (d + 1) nJ0_length_8abf5 [.ref 1019] h K := by
  have e : nI 6 >>> ((0 : Int32) &&& 31) = nI 6 := by decide
  rw [← e] at hK
  refine mCall_sem MJ0_length_8abf5 rfl rfl (Or.inl ⟨rfl, rfl, rfl⟩) rfl (mSem_wp MJ0_length_8abf5 rfl aJ0_length_8abf5 300 [] (fun cl ax hcl hax => ?_))
  refine hcl _ _ _ _ (w_coder9 ?_)
  exact hK
theorem w_jchar9 {E : ME} {d : Nat} {h : MH} {K : MK} (j : Nat) (hj : j < 6) (hK : K (some (.int (w_church.getD j 0))) h) : mCall E (d + 2) nJ1_charAt_3b067 [.ref 1059, .int (nI j)] h K := by
  have e8 : (nI j).toNatClampNeg = j := nI_clamp (by omega)
  have ew : ((w_church.getD j 0 &&& 255).toUInt32 % 65536).toInt32 = w_church.getD j 0 := (show ∀ j, j < 6 → ((w_church.getD j 0 &&& 255).toUInt32 % 65536).toInt32 = w_church.getD j 0 by decide) j hj
  rw [← ew] at hK
  refine mCall_sem MJ1_charAt_3b067 rfl rfl (Or.inl ⟨rfl, rfl, rfl⟩) rfl (mSem_wp MJ1_charAt_3b067 rfl aJ1_charAt_3b067 300 [] (fun cl ax hcl hax => ?_))
  refine hcl _ _ _ _ (w_check (L := 6) hj (by decide) ?_)
  refine ⟨vp_in_nI (N := 6) hj (by decide), ?_⟩
  refine ⟨pk_nc _, ?_⟩
  rw [e8]
  exact hK
theorem w_char9 {E : ME} {d : Nat} {h : MH} {K : MK} (j : Nat) (hj : j < 6) (hK : K (some (.int (w_church.getD j 0))) h) : mCall E (d + 3) nJ0_charAt_5068e [.ref 1019, .int (nI j)] h K := by
  have ew : ((w_church.getD j 0 &&& 255).toUInt32 % 65536).toInt32 = w_church.getD j 0 := (show ∀ j, j < 6 → ((w_church.getD j 0 &&& 255).toUInt32 % 65536).toInt32 = w_church.getD j 0 by decide) j hj
  refine mCall_sem MJ0_charAt_5068e rfl rfl (Or.inl ⟨rfl, rfl, rfl⟩) rfl (mSem_wp MJ0_charAt_5068e rfl aJ0_charAt_5068e 300 [] (fun cl ax hcl hax => ?_))
  refine hcl _ _ _ _ (w_latin9 ?_)
  refine ⟨fun h9 => absurd h9 (by decide), fun _ => ?_⟩
  refine hcl _ _ _ _ (w_jchar9 j hj ?_)
  refine ⟨?_, hK⟩
  rw [← ew]
  exact pk_nc _
theorem w_coder18 {E : ME} {d : Nat} {h : MH} {K : MK} (hK : K (some (.int 0)) h) : mCall E d nJ0_coder_7d493 [.ref 1028] h K := by
  refine mCall_sem MJ0_coder_7d493 rfl rfl (Or.inl ⟨rfl, rfl, rfl⟩) rfl (mSem_wp MJ0_coder_7d493 rfl aJ0_coder_7d493 300 [] (fun cl ax hcl hax => ?_))
  refine ⟨fun h9 => absurd h9 (by decide), fun _ => ?_⟩
  exact ⟨rfl, hK⟩
theorem w_latin18 {E : ME} {d : Nat} {h : MH} {K : MK} (hK : K (some (.int 1)) h) : mCall E d nJ0_isLatin1_aae02 [.ref 1028] h K := by
  refine mCall_sem MJ0_isLatin1_aae02 rfl rfl (Or.inl ⟨rfl, rfl, rfl⟩) rfl (mSem_wp MJ0_isLatin1_aae02 rfl aJ0_isLatin1_aae02 300 [] (fun cl ax hcl hax => ?_))
  refine ⟨fun h9 => absurd h9 (by decide), fun _ => ?_⟩
  refine ⟨fun h9 => absurd h9 (by decide), fun _ => ?_⟩
  exact ⟨rfl, hK⟩
theorem w_len18 {E : ME} {d : Nat} {h : MH} {K : MK} (hK : K (some (.int (nI 6))) h) : mCall E (d + 1) nJ0_length_8abf5 [.ref 1028] h K := by
  have e : nI 6 >>> ((0 : Int32) &&& 31) = nI 6 := by decide
  rw [← e] at hK
  refine mCall_sem MJ0_length_8abf5 rfl rfl (Or.inl ⟨rfl, rfl, rfl⟩) rfl (mSem_wp MJ0_length_8abf5 rfl aJ0_length_8abf5 300 [] (fun cl ax hcl hax => ?_))
  refine hcl _ _ _ _ (w_coder18 ?_)
  exact hK
theorem w_jchar18 {E : ME} {d : Nat} {h : MH} {K : MK} (j : Nat) (hj : j < 6) (hK : K (some (.int (w_church.getD j 0))) h) : mCall E (d + 2) nJ1_charAt_3b067 [.ref 1068, .int (nI j)] h K := by
  have e8 : (nI j).toNatClampNeg = j := nI_clamp (by omega)
  have ew : ((w_church.getD j 0 &&& 255).toUInt32 % 65536).toInt32 = w_church.getD j 0 := (show ∀ j, j < 6 → ((w_church.getD j 0 &&& 255).toUInt32 % 65536).toInt32 = w_church.getD j 0 by decide) j hj
  rw [← ew] at hK
  refine mCall_sem MJ1_charAt_3b067 rfl rfl (Or.inl ⟨rfl, rfl, rfl⟩) rfl (mSem_wp MJ1_charAt_3b067 rfl aJ1_charAt_3b067 300 [] (fun cl ax hcl hax => ?_))
  refine hcl _ _ _ _ (w_check (L := 6) hj (by decide) ?_)
  refine ⟨vp_in_nI (N := 6) hj (by decide), ?_⟩
  refine ⟨pk_nc _, ?_⟩
  rw [e8]
  exact hK
theorem w_char18 {E : ME} {d : Nat} {h : MH} {K : MK} (j : Nat) (hj : j < 6) (hK : K (some (.int (w_church.getD j 0))) h) : mCall E (d + 3) nJ0_charAt_5068e [.ref 1028, .int (nI j)] h K := by
  have ew : ((w_church.getD j 0 &&& 255).toUInt32 % 65536).toInt32 = w_church.getD j 0 := (show ∀ j, j < 6 → ((w_church.getD j 0 &&& 255).toUInt32 % 65536).toInt32 = w_church.getD j 0 by decide) j hj
  refine mCall_sem MJ0_charAt_5068e rfl rfl (Or.inl ⟨rfl, rfl, rfl⟩) rfl (mSem_wp MJ0_charAt_5068e rfl aJ0_charAt_5068e 300 [] (fun cl ax hcl hax => ?_))
  refine hcl _ _ _ _ (w_latin18 ?_)
  refine ⟨fun h9 => absurd h9 (by decide), fun _ => ?_⟩
  refine hcl _ _ _ _ (w_jchar18 j hj ?_)
  refine ⟨?_, hK⟩
  rw [← ew]
  exact pk_nc _
theorem w_coder10 {E : ME} {d : Nat} {h : MH} {K : MK} (hK : K (some (.int 0)) h) : mCall E d nJ0_coder_7d493 [.ref 1020] h K := by
  refine mCall_sem MJ0_coder_7d493 rfl rfl (Or.inl ⟨rfl, rfl, rfl⟩) rfl (mSem_wp MJ0_coder_7d493 rfl aJ0_coder_7d493 300 [] (fun cl ax hcl hax => ?_))
  refine ⟨fun h9 => absurd h9 (by decide), fun _ => ?_⟩
  exact ⟨rfl, hK⟩
theorem w_latin10 {E : ME} {d : Nat} {h : MH} {K : MK} (hK : K (some (.int 1)) h) : mCall E d nJ0_isLatin1_aae02 [.ref 1020] h K := by
  refine mCall_sem MJ0_isLatin1_aae02 rfl rfl (Or.inl ⟨rfl, rfl, rfl⟩) rfl (mSem_wp MJ0_isLatin1_aae02 rfl aJ0_isLatin1_aae02 300 [] (fun cl ax hcl hax => ?_))
  refine ⟨fun h9 => absurd h9 (by decide), fun _ => ?_⟩
  refine ⟨fun h9 => absurd h9 (by decide), fun _ => ?_⟩
  exact ⟨rfl, hK⟩
theorem w_len10 {E : ME} {d : Nat} {h : MH} {K : MK} (hK : K (some (.int (nI 5))) h) : mCall E (d + 1) nJ0_length_8abf5 [.ref 1020] h K := by
  have e : nI 5 >>> ((0 : Int32) &&& 31) = nI 5 := by decide
  rw [← e] at hK
  refine mCall_sem MJ0_length_8abf5 rfl rfl (Or.inl ⟨rfl, rfl, rfl⟩) rfl (mSem_wp MJ0_length_8abf5 rfl aJ0_length_8abf5 300 [] (fun cl ax hcl hax => ?_))
  refine hcl _ _ _ _ (w_coder10 ?_)
  exact hK
theorem w_jchar10 {E : ME} {d : Nat} {h : MH} {K : MK} (j : Nat) (hj : j < 5) (hK : K (some (.int (w_ferry.getD j 0))) h) : mCall E (d + 2) nJ1_charAt_3b067 [.ref 1060, .int (nI j)] h K := by
  have e8 : (nI j).toNatClampNeg = j := nI_clamp (by omega)
  have ew : ((w_ferry.getD j 0 &&& 255).toUInt32 % 65536).toInt32 = w_ferry.getD j 0 := (show ∀ j, j < 5 → ((w_ferry.getD j 0 &&& 255).toUInt32 % 65536).toInt32 = w_ferry.getD j 0 by decide) j hj
  rw [← ew] at hK
  refine mCall_sem MJ1_charAt_3b067 rfl rfl (Or.inl ⟨rfl, rfl, rfl⟩) rfl (mSem_wp MJ1_charAt_3b067 rfl aJ1_charAt_3b067 300 [] (fun cl ax hcl hax => ?_))
  refine hcl _ _ _ _ (w_check (L := 5) hj (by decide) ?_)
  refine ⟨vp_in_nI (N := 5) hj (by decide), ?_⟩
  refine ⟨pk_nc _, ?_⟩
  rw [e8]
  exact hK
theorem w_char10 {E : ME} {d : Nat} {h : MH} {K : MK} (j : Nat) (hj : j < 5) (hK : K (some (.int (w_ferry.getD j 0))) h) : mCall E (d + 3) nJ0_charAt_5068e [.ref 1020, .int (nI j)] h K := by
  have ew : ((w_ferry.getD j 0 &&& 255).toUInt32 % 65536).toInt32 = w_ferry.getD j 0 := (show ∀ j, j < 5 → ((w_ferry.getD j 0 &&& 255).toUInt32 % 65536).toInt32 = w_ferry.getD j 0 by decide) j hj
  refine mCall_sem MJ0_charAt_5068e rfl rfl (Or.inl ⟨rfl, rfl, rfl⟩) rfl (mSem_wp MJ0_charAt_5068e rfl aJ0_charAt_5068e 300 [] (fun cl ax hcl hax => ?_))
  refine hcl _ _ _ _ (w_latin10 ?_)
  refine ⟨fun h9 => absurd h9 (by decide), fun _ => ?_⟩
  refine hcl _ _ _ _ (w_jchar10 j hj ?_)
  refine ⟨?_, hK⟩
  rw [← ew]
  exact pk_nc _
theorem w_coder19 {E : ME} {d : Nat} {h : MH} {K : MK} (hK : K (some (.int 0)) h) : mCall E d nJ0_coder_7d493 [.ref 1029] h K := by
  refine mCall_sem MJ0_coder_7d493 rfl rfl (Or.inl ⟨rfl, rfl, rfl⟩) rfl (mSem_wp MJ0_coder_7d493 rfl aJ0_coder_7d493 300 [] (fun cl ax hcl hax => ?_))
  refine ⟨fun h9 => absurd h9 (by decide), fun _ => ?_⟩
  exact ⟨rfl, hK⟩
theorem w_latin19 {E : ME} {d : Nat} {h : MH} {K : MK} (hK : K (some (.int 1)) h) : mCall E d nJ0_isLatin1_aae02 [.ref 1029] h K := by
  refine mCall_sem MJ0_isLatin1_aae02 rfl rfl (Or.inl ⟨rfl, rfl, rfl⟩) rfl (mSem_wp MJ0_isLatin1_aae02 rfl aJ0_isLatin1_aae02 300 [] (fun cl ax hcl hax => ?_))
  refine ⟨fun h9 => absurd h9 (by decide), fun _ => ?_⟩
  refine ⟨fun h9 => absurd h9 (by decide), fun _ => ?_⟩
  exact ⟨rfl, hK⟩
theorem w_len19 {E : ME} {d : Nat} {h : MH} {K : MK} (hK : K (some (.int (nI 5))) h) : mCall E (d + 1) nJ0_length_8abf5 [.ref 1029] h K := by
  have e : nI 5 >>> ((0 : Int32) &&& 31) = nI 5 := by decide
  rw [← e] at hK
  refine mCall_sem MJ0_length_8abf5 rfl rfl (Or.inl ⟨rfl, rfl, rfl⟩) rfl (mSem_wp MJ0_length_8abf5 rfl aJ0_length_8abf5 300 [] (fun cl ax hcl hax => ?_))
  refine hcl _ _ _ _ (w_coder19 ?_)
  exact hK
theorem w_jchar19 {E : ME} {d : Nat} {h : MH} {K : MK} (j : Nat) (hj : j < 5) (hK : K (some (.int (w_ferry.getD j 0))) h) : mCall E (d + 2) nJ1_charAt_3b067 [.ref 1069, .int (nI j)] h K := by
  have e8 : (nI j).toNatClampNeg = j := nI_clamp (by omega)
  have ew : ((w_ferry.getD j 0 &&& 255).toUInt32 % 65536).toInt32 = w_ferry.getD j 0 := (show ∀ j, j < 5 → ((w_ferry.getD j 0 &&& 255).toUInt32 % 65536).toInt32 = w_ferry.getD j 0 by decide) j hj
  rw [← ew] at hK
  refine mCall_sem MJ1_charAt_3b067 rfl rfl (Or.inl ⟨rfl, rfl, rfl⟩) rfl (mSem_wp MJ1_charAt_3b067 rfl aJ1_charAt_3b067 300 [] (fun cl ax hcl hax => ?_))
  refine hcl _ _ _ _ (w_check (L := 5) hj (by decide) ?_)
  refine ⟨vp_in_nI (N := 5) hj (by decide), ?_⟩
  refine ⟨pk_nc _, ?_⟩
  rw [e8]
  exact hK
theorem w_char19 {E : ME} {d : Nat} {h : MH} {K : MK} (j : Nat) (hj : j < 5) (hK : K (some (.int (w_ferry.getD j 0))) h) : mCall E (d + 3) nJ0_charAt_5068e [.ref 1029, .int (nI j)] h K := by
  have ew : ((w_ferry.getD j 0 &&& 255).toUInt32 % 65536).toInt32 = w_ferry.getD j 0 := (show ∀ j, j < 5 → ((w_ferry.getD j 0 &&& 255).toUInt32 % 65536).toInt32 = w_ferry.getD j 0 by decide) j hj
  refine mCall_sem MJ0_charAt_5068e rfl rfl (Or.inl ⟨rfl, rfl, rfl⟩) rfl (mSem_wp MJ0_charAt_5068e rfl aJ0_charAt_5068e 300 [] (fun cl ax hcl hax => ?_))
  refine hcl _ _ _ _ (w_latin19 ?_)
  refine ⟨fun h9 => absurd h9 (by decide), fun _ => ?_⟩
  refine hcl _ _ _ _ (w_jchar19 j hj ?_)
  refine ⟨?_, hK⟩
  rw [← ew]
  exact pk_nc _
theorem w_coder11 {E : ME} {d : Nat} {h : MH} {K : MK} (hK : K (some (.int 0)) h) : mCall E d nJ0_coder_7d493 [.ref 1021] h K := by
  refine mCall_sem MJ0_coder_7d493 rfl rfl (Or.inl ⟨rfl, rfl, rfl⟩) rfl (mSem_wp MJ0_coder_7d493 rfl aJ0_coder_7d493 300 [] (fun cl ax hcl hax => ?_))
  refine ⟨fun h9 => absurd h9 (by decide), fun _ => ?_⟩
  exact ⟨rfl, hK⟩
theorem w_latin11 {E : ME} {d : Nat} {h : MH} {K : MK} (hK : K (some (.int 1)) h) : mCall E d nJ0_isLatin1_aae02 [.ref 1021] h K := by
  refine mCall_sem MJ0_isLatin1_aae02 rfl rfl (Or.inl ⟨rfl, rfl, rfl⟩) rfl (mSem_wp MJ0_isLatin1_aae02 rfl aJ0_isLatin1_aae02 300 [] (fun cl ax hcl hax => ?_))
  refine ⟨fun h9 => absurd h9 (by decide), fun _ => ?_⟩
  refine ⟨fun h9 => absurd h9 (by decide), fun _ => ?_⟩
  exact ⟨rfl, hK⟩
theorem w_len11 {E : ME} {d : Nat} {h : MH} {K : MK} (hK : K (some (.int (nI 4))) h) : mCall E (d + 1) nJ0_length_8abf5 [.ref 1021] h K := by
  have e : nI 4 >>> ((0 : Int32) &&& 31) = nI 4 := by decide
  rw [← e] at hK
  refine mCall_sem MJ0_length_8abf5 rfl rfl (Or.inl ⟨rfl, rfl, rfl⟩) rfl (mSem_wp MJ0_length_8abf5 rfl aJ0_length_8abf5 300 [] (fun cl ax hcl hax => ?_))
  refine hcl _ _ _ _ (w_coder11 ?_)
  exact hK
theorem w_jchar11 {E : ME} {d : Nat} {h : MH} {K : MK} (j : Nat) (hj : j < 4) (hK : K (some (.int (w_deep.getD j 0))) h) : mCall E (d + 2) nJ1_charAt_3b067 [.ref 1061, .int (nI j)] h K := by
  have e8 : (nI j).toNatClampNeg = j := nI_clamp (by omega)
  have ew : ((w_deep.getD j 0 &&& 255).toUInt32 % 65536).toInt32 = w_deep.getD j 0 := (show ∀ j, j < 4 → ((w_deep.getD j 0 &&& 255).toUInt32 % 65536).toInt32 = w_deep.getD j 0 by decide) j hj
  rw [← ew] at hK
  refine mCall_sem MJ1_charAt_3b067 rfl rfl (Or.inl ⟨rfl, rfl, rfl⟩) rfl (mSem_wp MJ1_charAt_3b067 rfl aJ1_charAt_3b067 300 [] (fun cl ax hcl hax => ?_))
  refine hcl _ _ _ _ (w_check (L := 4) hj (by decide) ?_)
  refine ⟨vp_in_nI (N := 4) hj (by decide), ?_⟩
  refine ⟨pk_nc _, ?_⟩
  rw [e8]
  exact hK
theorem w_char11 {E : ME} {d : Nat} {h : MH} {K : MK} (j : Nat) (hj : j < 4) (hK : K (some (.int (w_deep.getD j 0))) h) : mCall E (d + 3) nJ0_charAt_5068e [.ref 1021, .int (nI j)] h K := by
  have ew : ((w_deep.getD j 0 &&& 255).toUInt32 % 65536).toInt32 = w_deep.getD j 0 := (show ∀ j, j < 4 → ((w_deep.getD j 0 &&& 255).toUInt32 % 65536).toInt32 = w_deep.getD j 0 by decide) j hj
  refine mCall_sem MJ0_charAt_5068e rfl rfl (Or.inl ⟨rfl, rfl, rfl⟩) rfl (mSem_wp MJ0_charAt_5068e rfl aJ0_charAt_5068e 300 [] (fun cl ax hcl hax => ?_))
  refine hcl _ _ _ _ (w_latin11 ?_)
  refine ⟨fun h9 => absurd h9 (by decide), fun _ => ?_⟩
  refine hcl _ _ _ _ (w_jchar11 j hj ?_)
  refine ⟨?_, hK⟩
  rw [← ew]
  exact pk_nc _
theorem w_coder20 {E : ME} {d : Nat} {h : MH} {K : MK} (hK : K (some (.int 0)) h) : mCall E d nJ0_coder_7d493 [.ref 1030] h K := by
  refine mCall_sem MJ0_coder_7d493 rfl rfl (Or.inl ⟨rfl, rfl, rfl⟩) rfl (mSem_wp MJ0_coder_7d493 rfl aJ0_coder_7d493 300 [] (fun cl ax hcl hax => ?_))
  refine ⟨fun h9 => absurd h9 (by decide), fun _ => ?_⟩
  exact ⟨rfl, hK⟩
theorem w_latin20 {E : ME} {d : Nat} {h : MH} {K : MK} (hK : K (some (.int 1)) h) : mCall E d nJ0_isLatin1_aae02 [.ref 1030] h K := by
  refine mCall_sem MJ0_isLatin1_aae02 rfl rfl (Or.inl ⟨rfl, rfl, rfl⟩) rfl (mSem_wp MJ0_isLatin1_aae02 rfl aJ0_isLatin1_aae02 300 [] (fun cl ax hcl hax => ?_))
  refine ⟨fun h9 => absurd h9 (by decide), fun _ => ?_⟩
  refine ⟨fun h9 => absurd h9 (by decide), fun _ => ?_⟩
  exact ⟨rfl, hK⟩
theorem w_len20 {E : ME} {d : Nat} {h : MH} {K : MK} (hK : K (some (.int (nI 4))) h) : mCall E (d + 1) nJ0_length_8abf5 [.ref 1030] h K := by
  have e : nI 4 >>> ((0 : Int32) &&& 31) = nI 4 := by decide
  rw [← e] at hK
  refine mCall_sem MJ0_length_8abf5 rfl rfl (Or.inl ⟨rfl, rfl, rfl⟩) rfl (mSem_wp MJ0_length_8abf5 rfl aJ0_length_8abf5 300 [] (fun cl ax hcl hax => ?_))
  refine hcl _ _ _ _ (w_coder20 ?_)
  exact hK
theorem w_jchar20 {E : ME} {d : Nat} {h : MH} {K : MK} (j : Nat) (hj : j < 4) (hK : K (some (.int (w_deep.getD j 0))) h) : mCall E (d + 2) nJ1_charAt_3b067 [.ref 1070, .int (nI j)] h K := by
  have e8 : (nI j).toNatClampNeg = j := nI_clamp (by omega)
  have ew : ((w_deep.getD j 0 &&& 255).toUInt32 % 65536).toInt32 = w_deep.getD j 0 := (show ∀ j, j < 4 → ((w_deep.getD j 0 &&& 255).toUInt32 % 65536).toInt32 = w_deep.getD j 0 by decide) j hj
  rw [← ew] at hK
  refine mCall_sem MJ1_charAt_3b067 rfl rfl (Or.inl ⟨rfl, rfl, rfl⟩) rfl (mSem_wp MJ1_charAt_3b067 rfl aJ1_charAt_3b067 300 [] (fun cl ax hcl hax => ?_))
  refine hcl _ _ _ _ (w_check (L := 4) hj (by decide) ?_)
  refine ⟨vp_in_nI (N := 4) hj (by decide), ?_⟩
  refine ⟨pk_nc _, ?_⟩
  rw [e8]
  exact hK
theorem w_char20 {E : ME} {d : Nat} {h : MH} {K : MK} (j : Nat) (hj : j < 4) (hK : K (some (.int (w_deep.getD j 0))) h) : mCall E (d + 3) nJ0_charAt_5068e [.ref 1030, .int (nI j)] h K := by
  have ew : ((w_deep.getD j 0 &&& 255).toUInt32 % 65536).toInt32 = w_deep.getD j 0 := (show ∀ j, j < 4 → ((w_deep.getD j 0 &&& 255).toUInt32 % 65536).toInt32 = w_deep.getD j 0 by decide) j hj
  refine mCall_sem MJ0_charAt_5068e rfl rfl (Or.inl ⟨rfl, rfl, rfl⟩) rfl (mSem_wp MJ0_charAt_5068e rfl aJ0_charAt_5068e 300 [] (fun cl ax hcl hax => ?_))
  refine hcl _ _ _ _ (w_latin20 ?_)
  refine ⟨fun h9 => absurd h9 (by decide), fun _ => ?_⟩
  refine hcl _ _ _ _ (w_jchar20 j hj ?_)
  refine ⟨?_, hK⟩
  rw [← ew]
  exact pk_nc _
theorem w_coder12 {E : ME} {d : Nat} {h : MH} {K : MK} (hK : K (some (.int 0)) h) : mCall E d nJ0_coder_7d493 [.ref 1022] h K := by
  refine mCall_sem MJ0_coder_7d493 rfl rfl (Or.inl ⟨rfl, rfl, rfl⟩) rfl (mSem_wp MJ0_coder_7d493 rfl aJ0_coder_7d493 300 [] (fun cl ax hcl hax => ?_))
  refine ⟨fun h9 => absurd h9 (by decide), fun _ => ?_⟩
  exact ⟨rfl, hK⟩
theorem w_latin12 {E : ME} {d : Nat} {h : MH} {K : MK} (hK : K (some (.int 1)) h) : mCall E d nJ0_isLatin1_aae02 [.ref 1022] h K := by
  refine mCall_sem MJ0_isLatin1_aae02 rfl rfl (Or.inl ⟨rfl, rfl, rfl⟩) rfl (mSem_wp MJ0_isLatin1_aae02 rfl aJ0_isLatin1_aae02 300 [] (fun cl ax hcl hax => ?_))
  refine ⟨fun h9 => absurd h9 (by decide), fun _ => ?_⟩
  refine ⟨fun h9 => absurd h9 (by decide), fun _ => ?_⟩
  exact ⟨rfl, hK⟩
theorem w_len12 {E : ME} {d : Nat} {h : MH} {K : MK} (hK : K (some (.int (nI 5))) h) : mCall E (d + 1) nJ0_length_8abf5 [.ref 1022] h K := by
  have e : nI 5 >>> ((0 : Int32) &&& 31) = nI 5 := by decide
  rw [← e] at hK
  refine mCall_sem MJ0_length_8abf5 rfl rfl (Or.inl ⟨rfl, rfl, rfl⟩) rfl (mSem_wp MJ0_length_8abf5 rfl aJ0_length_8abf5 300 [] (fun cl ax hcl hax => ?_))
  refine hcl _ _ _ _ (w_coder12 ?_)
  exact hK
theorem w_jchar12 {E : ME} {d : Nat} {h : MH} {K : MK} (j : Nat) (hj : j < 5) (hK : K (some (.int (w_house.getD j 0))) h) : mCall E (d + 2) nJ1_charAt_3b067 [.ref 1062, .int (nI j)] h K := by
  have e8 : (nI j).toNatClampNeg = j := nI_clamp (by omega)
  have ew : ((w_house.getD j 0 &&& 255).toUInt32 % 65536).toInt32 = w_house.getD j 0 := (show ∀ j, j < 5 → ((w_house.getD j 0 &&& 255).toUInt32 % 65536).toInt32 = w_house.getD j 0 by decide) j hj
  rw [← ew] at hK
  refine mCall_sem MJ1_charAt_3b067 rfl rfl (Or.inl ⟨rfl, rfl, rfl⟩) rfl (mSem_wp MJ1_charAt_3b067 rfl aJ1_charAt_3b067 300 [] (fun cl ax hcl hax => ?_))
  refine hcl _ _ _ _ (w_check (L := 5) hj (by decide) ?_)
  refine ⟨vp_in_nI (N := 5) hj (by decide), ?_⟩
  refine ⟨pk_nc _, ?_⟩
  rw [e8]
  exact hK
theorem w_char12 {E : ME} {d : Nat} {h : MH} {K : MK} (j : Nat) (hj : j < 5) (hK : K (some (.int (w_house.getD j 0))) h) : mCall E (d + 3) nJ0_charAt_5068e [.ref 1022, .int (nI j)] h K := by
  have ew : ((w_house.getD j 0 &&& 255).toUInt32 % 65536).toInt32 = w_house.getD j 0 := (show ∀ j, j < 5 → ((w_house.getD j 0 &&& 255).toUInt32 % 65536).toInt32 = w_house.getD j 0 by decide) j hj
  refine mCall_sem MJ0_charAt_5068e rfl rfl (Or.inl ⟨rfl, rfl, rfl⟩) rfl (mSem_wp MJ0_charAt_5068e rfl aJ0_charAt_5068e 300 [] (fun cl ax hcl hax => ?_))
  refine hcl _ _ _ _ (w_latin12 ?_)
  refine ⟨fun h9 => absurd h9 (by decide), fun _ => ?_⟩
  refine hcl _ _ _ _ (w_jchar12 j hj ?_)
  refine ⟨?_, hK⟩
  rw [← ew]
  exact pk_nc _
theorem w_coder15 {E : ME} {d : Nat} {h : MH} {K : MK} (hK : K (some (.int 0)) h) : mCall E d nJ0_coder_7d493 [.ref 1025] h K := by
  refine mCall_sem MJ0_coder_7d493 rfl rfl (Or.inl ⟨rfl, rfl, rfl⟩) rfl (mSem_wp MJ0_coder_7d493 rfl aJ0_coder_7d493 300 [] (fun cl ax hcl hax => ?_))
  refine ⟨fun h9 => absurd h9 (by decide), fun _ => ?_⟩
  exact ⟨rfl, hK⟩
theorem w_latin15 {E : ME} {d : Nat} {h : MH} {K : MK} (hK : K (some (.int 1)) h) : mCall E d nJ0_isLatin1_aae02 [.ref 1025] h K := by
  refine mCall_sem MJ0_isLatin1_aae02 rfl rfl (Or.inl ⟨rfl, rfl, rfl⟩) rfl (mSem_wp MJ0_isLatin1_aae02 rfl aJ0_isLatin1_aae02 300 [] (fun cl ax hcl hax => ?_))
  refine ⟨fun h9 => absurd h9 (by decide), fun _ => ?_⟩
  refine ⟨fun h9 => absurd h9 (by decide), fun _ => ?_⟩
  exact ⟨rfl, hK⟩
theorem w_len15 {E : ME} {d : Nat} {h : MH} {K : MK} (hK : K (some (.int (nI 5))) h) : mCall E (d + 1) nJ0_length_8abf5 [.ref 1025] h K := by
  have e : nI 5 >>> ((0 : Int32) &&& 31) = nI 5 := by decide
  rw [← e] at hK
  refine mCall_sem MJ0_length_8abf5 rfl rfl (Or.inl ⟨rfl, rfl, rfl⟩) rfl (mSem_wp MJ0_length_8abf5 rfl aJ0_length_8abf5 300 [] (fun cl ax hcl hax => ?_))
  refine hcl _ _ _ _ (w_coder15 ?_)
  exact hK
theorem w_jchar15 {E : ME} {d : Nat} {h : MH} {K : MK} (j : Nat) (hj : j < 5) (hK : K (some (.int (w_house.getD j 0))) h) : mCall E (d + 2) nJ1_charAt_3b067 [.ref 1065, .int (nI j)] h K := by
  have e8 : (nI j).toNatClampNeg = j := nI_clamp (by omega)
  have ew : ((w_house.getD j 0 &&& 255).toUInt32 % 65536).toInt32 = w_house.getD j 0 := (show ∀ j, j < 5 → ((w_house.getD j 0 &&& 255).toUInt32 % 65536).toInt32 = w_house.getD j 0 by decide) j hj
  rw [← ew] at hK
  refine mCall_sem MJ1_charAt_3b067 rfl rfl (Or.inl ⟨rfl, rfl, rfl⟩) rfl (mSem_wp MJ1_charAt_3b067 rfl aJ1_charAt_3b067 300 [] (fun cl ax hcl hax => ?_))
  refine hcl _ _ _ _ (w_check (L := 5) hj (by decide) ?_)
  refine ⟨vp_in_nI (N := 5) hj (by decide), ?_⟩
  refine ⟨pk_nc _, ?_⟩
  rw [e8]
  exact hK
theorem w_char15 {E : ME} {d : Nat} {h : MH} {K : MK} (j : Nat) (hj : j < 5) (hK : K (some (.int (w_house.getD j 0))) h) : mCall E (d + 3) nJ0_charAt_5068e [.ref 1025, .int (nI j)] h K := by
  have ew : ((w_house.getD j 0 &&& 255).toUInt32 % 65536).toInt32 = w_house.getD j 0 := (show ∀ j, j < 5 → ((w_house.getD j 0 &&& 255).toUInt32 % 65536).toInt32 = w_house.getD j 0 by decide) j hj
  refine mCall_sem MJ0_charAt_5068e rfl rfl (Or.inl ⟨rfl, rfl, rfl⟩) rfl (mSem_wp MJ0_charAt_5068e rfl aJ0_charAt_5068e 300 [] (fun cl ax hcl hax => ?_))
  refine hcl _ _ _ _ (w_latin15 ?_)
  refine ⟨fun h9 => absurd h9 (by decide), fun _ => ?_⟩
  refine hcl _ _ _ _ (w_jchar15 j hj ?_)
  refine ⟨?_, hK⟩
  rw [← ew]
  exact pk_nc _
theorem w_coder13 {E : ME} {d : Nat} {h : MH} {K : MK} (hK : K (some (.int 0)) h) : mCall E d nJ0_coder_7d493 [.ref 1023] h K := by
  refine mCall_sem MJ0_coder_7d493 rfl rfl (Or.inl ⟨rfl, rfl, rfl⟩) rfl (mSem_wp MJ0_coder_7d493 rfl aJ0_coder_7d493 300 [] (fun cl ax hcl hax => ?_))
  refine ⟨fun h9 => absurd h9 (by decide), fun _ => ?_⟩
  exact ⟨rfl, hK⟩
theorem w_latin13 {E : ME} {d : Nat} {h : MH} {K : MK} (hK : K (some (.int 1)) h) : mCall E d nJ0_isLatin1_aae02 [.ref 1023] h K := by
  refine mCall_sem MJ0_isLatin1_aae02 rfl rfl (Or.inl ⟨rfl, rfl, rfl⟩) rfl (mSem_wp MJ0_isLatin1_aae02 rfl aJ0_isLatin1_aae02 300 [] (fun cl ax hcl hax => ?_))
  refine ⟨fun h9 => absurd h9 (by decide), fun _ => ?_⟩
  refine ⟨fun h9 => absurd h9 (by decide), fun _ => ?_⟩
  exact ⟨rfl, hK⟩
theorem w_len13 {E : ME} {d : Nat} {h : MH} {K : MK} (hK : K (some (.int (nI 2))) h) : mCall E (d + 1) nJ0_length_8abf5 [.ref 1023] h K := by
  have e : nI 2 >>> ((0 : Int32) &&& 31) = nI 2 := by decide
  rw [← e] at hK
  refine mCall_sem MJ0_length_8abf5 rfl rfl (Or.inl ⟨rfl, rfl, rfl⟩) rfl (mSem_wp MJ0_length_8abf5 rfl aJ0_length_8abf5 300 [] (fun cl ax hcl hax => ?_))
  refine hcl _ _ _ _ (w_coder13 ?_)
  exact hK
theorem w_jchar13 {E : ME} {d : Nat} {h : MH} {K : MK} (j : Nat) (hj : j < 2) (hK : K (some (.int (w_at.getD j 0))) h) : mCall E (d + 2) nJ1_charAt_3b067 [.ref 1063, .int (nI j)] h K := by
  have e8 : (nI j).toNatClampNeg = j := nI_clamp (by omega)
  have ew : ((w_at.getD j 0 &&& 255).toUInt32 % 65536).toInt32 = w_at.getD j 0 := (show ∀ j, j < 2 → ((w_at.getD j 0 &&& 255).toUInt32 % 65536).toInt32 = w_at.getD j 0 by decide) j hj
  rw [← ew] at hK
  refine mCall_sem MJ1_charAt_3b067 rfl rfl (Or.inl ⟨rfl, rfl, rfl⟩) rfl (mSem_wp MJ1_charAt_3b067 rfl aJ1_charAt_3b067 300 [] (fun cl ax hcl hax => ?_))
  refine hcl _ _ _ _ (w_check (L := 2) hj (by decide) ?_)
  refine ⟨vp_in_nI (N := 2) hj (by decide), ?_⟩
  refine ⟨pk_nc _, ?_⟩
  rw [e8]
  exact hK
theorem w_char13 {E : ME} {d : Nat} {h : MH} {K : MK} (j : Nat) (hj : j < 2) (hK : K (some (.int (w_at.getD j 0))) h) : mCall E (d + 3) nJ0_charAt_5068e [.ref 1023, .int (nI j)] h K := by
  have ew : ((w_at.getD j 0 &&& 255).toUInt32 % 65536).toInt32 = w_at.getD j 0 := (show ∀ j, j < 2 → ((w_at.getD j 0 &&& 255).toUInt32 % 65536).toInt32 = w_at.getD j 0 by decide) j hj
  refine mCall_sem MJ0_charAt_5068e rfl rfl (Or.inl ⟨rfl, rfl, rfl⟩) rfl (mSem_wp MJ0_charAt_5068e rfl aJ0_charAt_5068e 300 [] (fun cl ax hcl hax => ?_))
  refine hcl _ _ _ _ (w_latin13 ?_)
  refine ⟨fun h9 => absurd h9 (by decide), fun _ => ?_⟩
  refine hcl _ _ _ _ (w_jchar13 j hj ?_)
  refine ⟨?_, hK⟩
  rw [← ew]
  exact pk_nc _
theorem w_coder21 {E : ME} {d : Nat} {h : MH} {K : MK} (hK : K (some (.int 0)) h) : mCall E d nJ0_coder_7d493 [.ref 1031] h K := by
  refine mCall_sem MJ0_coder_7d493 rfl rfl (Or.inl ⟨rfl, rfl, rfl⟩) rfl (mSem_wp MJ0_coder_7d493 rfl aJ0_coder_7d493 300 [] (fun cl ax hcl hax => ?_))
  refine ⟨fun h9 => absurd h9 (by decide), fun _ => ?_⟩
  exact ⟨rfl, hK⟩
theorem w_latin21 {E : ME} {d : Nat} {h : MH} {K : MK} (hK : K (some (.int 1)) h) : mCall E d nJ0_isLatin1_aae02 [.ref 1031] h K := by
  refine mCall_sem MJ0_isLatin1_aae02 rfl rfl (Or.inl ⟨rfl, rfl, rfl⟩) rfl (mSem_wp MJ0_isLatin1_aae02 rfl aJ0_isLatin1_aae02 300 [] (fun cl ax hcl hax => ?_))
  refine ⟨fun h9 => absurd h9 (by decide), fun _ => ?_⟩
  refine ⟨fun h9 => absurd h9 (by decide), fun _ => ?_⟩
  exact ⟨rfl, hK⟩
theorem w_len21 {E : ME} {d : Nat} {h : MH} {K : MK} (hK : K (some (.int (nI 2))) h) : mCall E (d + 1) nJ0_length_8abf5 [.ref 1031] h K := by
  have e : nI 2 >>> ((0 : Int32) &&& 31) = nI 2 := by decide
  rw [← e] at hK
  refine mCall_sem MJ0_length_8abf5 rfl rfl (Or.inl ⟨rfl, rfl, rfl⟩) rfl (mSem_wp MJ0_length_8abf5 rfl aJ0_length_8abf5 300 [] (fun cl ax hcl hax => ?_))
  refine hcl _ _ _ _ (w_coder21 ?_)
  exact hK
theorem w_jchar21 {E : ME} {d : Nat} {h : MH} {K : MK} (j : Nat) (hj : j < 2) (hK : K (some (.int (w_at.getD j 0))) h) : mCall E (d + 2) nJ1_charAt_3b067 [.ref 1071, .int (nI j)] h K := by
  have e8 : (nI j).toNatClampNeg = j := nI_clamp (by omega)
  have ew : ((w_at.getD j 0 &&& 255).toUInt32 % 65536).toInt32 = w_at.getD j 0 := (show ∀ j, j < 2 → ((w_at.getD j 0 &&& 255).toUInt32 % 65536).toInt32 = w_at.getD j 0 by decide) j hj
  rw [← ew] at hK
  refine mCall_sem MJ1_charAt_3b067 rfl rfl (Or.inl ⟨rfl, rfl, rfl⟩) rfl (mSem_wp MJ1_charAt_3b067 rfl aJ1_charAt_3b067 300 [] (fun cl ax hcl hax => ?_))
  refine hcl _ _ _ _ (w_check (L := 2) hj (by decide) ?_)
  refine ⟨vp_in_nI (N := 2) hj (by decide), ?_⟩
  refine ⟨pk_nc _, ?_⟩
  rw [e8]
  exact hK
theorem w_char21 {E : ME} {d : Nat} {h : MH} {K : MK} (j : Nat) (hj : j < 2) (hK : K (some (.int (w_at.getD j 0))) h) : mCall E (d + 3) nJ0_charAt_5068e [.ref 1031, .int (nI j)] h K := by
  have ew : ((w_at.getD j 0 &&& 255).toUInt32 % 65536).toInt32 = w_at.getD j 0 := (show ∀ j, j < 2 → ((w_at.getD j 0 &&& 255).toUInt32 % 65536).toInt32 = w_at.getD j 0 by decide) j hj
  refine mCall_sem MJ0_charAt_5068e rfl rfl (Or.inl ⟨rfl, rfl, rfl⟩) rfl (mSem_wp MJ0_charAt_5068e rfl aJ0_charAt_5068e 300 [] (fun cl ax hcl hax => ?_))
  refine hcl _ _ _ _ (w_latin21 ?_)
  refine ⟨fun h9 => absurd h9 (by decide), fun _ => ?_⟩
  refine hcl _ _ _ _ (w_jchar21 j hj ?_)
  refine ⟨?_, hK⟩
  rw [← ew]
  exact pk_nc _
theorem w_coder14 {E : ME} {d : Nat} {h : MH} {K : MK} (hK : K (some (.int 0)) h) : mCall E d nJ0_coder_7d493 [.ref 1024] h K := by
  refine mCall_sem MJ0_coder_7d493 rfl rfl (Or.inl ⟨rfl, rfl, rfl⟩) rfl (mSem_wp MJ0_coder_7d493 rfl aJ0_coder_7d493 300 [] (fun cl ax hcl hax => ?_))
  refine ⟨fun h9 => absurd h9 (by decide), fun _ => ?_⟩
  exact ⟨rfl, hK⟩
theorem w_latin14 {E : ME} {d : Nat} {h : MH} {K : MK} (hK : K (some (.int 1)) h) : mCall E d nJ0_isLatin1_aae02 [.ref 1024] h K := by
  refine mCall_sem MJ0_isLatin1_aae02 rfl rfl (Or.inl ⟨rfl, rfl, rfl⟩) rfl (mSem_wp MJ0_isLatin1_aae02 rfl aJ0_isLatin1_aae02 300 [] (fun cl ax hcl hax => ?_))
  refine ⟨fun h9 => absurd h9 (by decide), fun _ => ?_⟩
  refine ⟨fun h9 => absurd h9 (by decide), fun _ => ?_⟩
  exact ⟨rfl, hK⟩
theorem w_len14 {E : ME} {d : Nat} {h : MH} {K : MK} (hK : K (some (.int (nI 4))) h) : mCall E (d + 1) nJ0_length_8abf5 [.ref 1024] h K := by
  have e : nI 4 >>> ((0 : Int32) &&& 31) = nI 4 := by decide
  rw [← e] at hK
  refine mCall_sem MJ0_length_8abf5 rfl rfl (Or.inl ⟨rfl, rfl, rfl⟩) rfl (mSem_wp MJ0_length_8abf5 rfl aJ0_length_8abf5 300 [] (fun cl ax hcl hax => ?_))
  refine hcl _ _ _ _ (w_coder14 ?_)
  exact hK
theorem w_jchar14 {E : ME} {d : Nat} {h : MH} {K : MK} (j : Nat) (hj : j < 4) (hK : K (some (.int (w_hold.getD j 0))) h) : mCall E (d + 2) nJ1_charAt_3b067 [.ref 1064, .int (nI j)] h K := by
  have e8 : (nI j).toNatClampNeg = j := nI_clamp (by omega)
  have ew : ((w_hold.getD j 0 &&& 255).toUInt32 % 65536).toInt32 = w_hold.getD j 0 := (show ∀ j, j < 4 → ((w_hold.getD j 0 &&& 255).toUInt32 % 65536).toInt32 = w_hold.getD j 0 by decide) j hj
  rw [← ew] at hK
  refine mCall_sem MJ1_charAt_3b067 rfl rfl (Or.inl ⟨rfl, rfl, rfl⟩) rfl (mSem_wp MJ1_charAt_3b067 rfl aJ1_charAt_3b067 300 [] (fun cl ax hcl hax => ?_))
  refine hcl _ _ _ _ (w_check (L := 4) hj (by decide) ?_)
  refine ⟨vp_in_nI (N := 4) hj (by decide), ?_⟩
  refine ⟨pk_nc _, ?_⟩
  rw [e8]
  exact hK
theorem w_char14 {E : ME} {d : Nat} {h : MH} {K : MK} (j : Nat) (hj : j < 4) (hK : K (some (.int (w_hold.getD j 0))) h) : mCall E (d + 3) nJ0_charAt_5068e [.ref 1024, .int (nI j)] h K := by
  have ew : ((w_hold.getD j 0 &&& 255).toUInt32 % 65536).toInt32 = w_hold.getD j 0 := (show ∀ j, j < 4 → ((w_hold.getD j 0 &&& 255).toUInt32 % 65536).toInt32 = w_hold.getD j 0 by decide) j hj
  refine mCall_sem MJ0_charAt_5068e rfl rfl (Or.inl ⟨rfl, rfl, rfl⟩) rfl (mSem_wp MJ0_charAt_5068e rfl aJ0_charAt_5068e 300 [] (fun cl ax hcl hax => ?_))
  refine hcl _ _ _ _ (w_latin14 ?_)
  refine ⟨fun h9 => absurd h9 (by decide), fun _ => ?_⟩
  refine hcl _ _ _ _ (w_jchar14 j hj ?_)
  refine ⟨?_, hK⟩
  rw [← ew]
  exact pk_nc _
theorem w_coder22 {E : ME} {d : Nat} {h : MH} {K : MK} (hK : K (some (.int 0)) h) : mCall E d nJ0_coder_7d493 [.ref 1032] h K := by
  refine mCall_sem MJ0_coder_7d493 rfl rfl (Or.inl ⟨rfl, rfl, rfl⟩) rfl (mSem_wp MJ0_coder_7d493 rfl aJ0_coder_7d493 300 [] (fun cl ax hcl hax => ?_))
  refine ⟨fun h9 => absurd h9 (by decide), fun _ => ?_⟩
  exact ⟨rfl, hK⟩
theorem w_latin22 {E : ME} {d : Nat} {h : MH} {K : MK} (hK : K (some (.int 1)) h) : mCall E d nJ0_isLatin1_aae02 [.ref 1032] h K := by
  refine mCall_sem MJ0_isLatin1_aae02 rfl rfl (Or.inl ⟨rfl, rfl, rfl⟩) rfl (mSem_wp MJ0_isLatin1_aae02 rfl aJ0_isLatin1_aae02 300 [] (fun cl ax hcl hax => ?_))
  refine ⟨fun h9 => absurd h9 (by decide), fun _ => ?_⟩
  refine ⟨fun h9 => absurd h9 (by decide), fun _ => ?_⟩
  exact ⟨rfl, hK⟩
theorem w_len22 {E : ME} {d : Nat} {h : MH} {K : MK} (hK : K (some (.int (nI 4))) h) : mCall E (d + 1) nJ0_length_8abf5 [.ref 1032] h K := by
  have e : nI 4 >>> ((0 : Int32) &&& 31) = nI 4 := by decide
  rw [← e] at hK
  refine mCall_sem MJ0_length_8abf5 rfl rfl (Or.inl ⟨rfl, rfl, rfl⟩) rfl (mSem_wp MJ0_length_8abf5 rfl aJ0_length_8abf5 300 [] (fun cl ax hcl hax => ?_))
  refine hcl _ _ _ _ (w_coder22 ?_)
  exact hK
theorem w_jchar22 {E : ME} {d : Nat} {h : MH} {K : MK} (j : Nat) (hj : j < 4) (hK : K (some (.int (w_hold.getD j 0))) h) : mCall E (d + 2) nJ1_charAt_3b067 [.ref 1072, .int (nI j)] h K := by
  have e8 : (nI j).toNatClampNeg = j := nI_clamp (by omega)
  have ew : ((w_hold.getD j 0 &&& 255).toUInt32 % 65536).toInt32 = w_hold.getD j 0 := (show ∀ j, j < 4 → ((w_hold.getD j 0 &&& 255).toUInt32 % 65536).toInt32 = w_hold.getD j 0 by decide) j hj
  rw [← ew] at hK
  refine mCall_sem MJ1_charAt_3b067 rfl rfl (Or.inl ⟨rfl, rfl, rfl⟩) rfl (mSem_wp MJ1_charAt_3b067 rfl aJ1_charAt_3b067 300 [] (fun cl ax hcl hax => ?_))
  refine hcl _ _ _ _ (w_check (L := 4) hj (by decide) ?_)
  refine ⟨vp_in_nI (N := 4) hj (by decide), ?_⟩
  refine ⟨pk_nc _, ?_⟩
  rw [e8]
  exact hK
theorem w_char22 {E : ME} {d : Nat} {h : MH} {K : MK} (j : Nat) (hj : j < 4) (hK : K (some (.int (w_hold.getD j 0))) h) : mCall E (d + 3) nJ0_charAt_5068e [.ref 1032, .int (nI j)] h K := by
  have ew : ((w_hold.getD j 0 &&& 255).toUInt32 % 65536).toInt32 = w_hold.getD j 0 := (show ∀ j, j < 4 → ((w_hold.getD j 0 &&& 255).toUInt32 % 65536).toInt32 = w_hold.getD j 0 by decide) j hj
  refine mCall_sem MJ0_charAt_5068e rfl rfl (Or.inl ⟨rfl, rfl, rfl⟩) rfl (mSem_wp MJ0_charAt_5068e rfl aJ0_charAt_5068e 300 [] (fun cl ax hcl hax => ?_))
  refine hcl _ _ _ _ (w_latin22 ?_)
  refine ⟨fun h9 => absurd h9 (by decide), fun _ => ?_⟩
  refine hcl _ _ _ _ (w_jchar22 j hj ?_)
  refine ⟨?_, hK⟩
  rw [← ew]
  exact pk_nc _
