/-! copy, the operation -/
theorem op_copy00 {E : ME} {f g n : Int32} {A : Nat → Nat → Int32} {B : Nat → Nat → Int64} (h : rAll A B) : rOp E nX8_copy nX9_copy [.int (nI 0), .int f, .int (nI 0), .int g, .int n] A B := by
  refine rOp_of (fun K hK => ?_)
  obtain ⟨r0, r1, r2, r3⟩ := h.2.2.2.2
  have es := r0.1
  have et := r0.1
  obtain ⟨k, hk, k1, k2⟩ := r0.2.2.1
  obtain ⟨k', hk', k1', k2'⟩ := r0.2.2.1
  refine w_X8_copy00 hk k1 hk' k1' (fun c => ?_) (fun c c2 => ?_) (fun c c2 c3 => ?_) (fun c c2 i j m e1 e2 e3 e4 e5 c3 c4 => ?_)
  · have cc : A 82 0 = 0 ∨ A 82 0 = 0 := c.imp (fun q => es.symm.trans q) (fun q => et.symm.trans q)
    exact hK _ _ (mCall_k (fun K hK => w_X9_copy (A := cnt1 A 5) (s := 0) (t := 0) (by decide) (by decide) hk k2 hk' k2' (fun _ => hK _ _ (rEnd_cnt h (by decide))) (fun c9 => absurd cc c9) (fun c9 => absurd cc c9) (fun c9 => absurd cc c9)))
  · have cc : ¬ (A 82 0 = 0 ∨ A 82 0 = 0) := fun q => c (q.imp (fun q => es.trans q) (fun q => et.trans q))
    have c3 : ¬ A 82 0 = A 82 0 := fun q => c2 (es.trans (q.trans et.symm))
    exact hK _ _ (mCall_k (fun K hK => w_X9_copy (A := cnt1 A 2) (s := 0) (t := 0) (by decide) (by decide) hk k2 hk' k2' (fun c9 => absurd c9 cc) (fun _ _ => hK _ _ (rEnd_cnt h (by decide))) (fun _ c9 => absurd c9 c3) (fun _ c9 => absurd c9 c3)))
  · have cc : ¬ (A 82 0 = 0 ∨ A 82 0 = 0) := fun q => c (q.imp (fun q => es.trans q) (fun q => et.trans q))
    have d3 : A 82 0 = A 82 0 := es.symm.trans (c2.trans et)
    exact hK _ _ (mCall_k (fun K hK => w_X9_copy (A := cnt1 A 0) (s := 0) (t := 0) (by decide) (by decide) hk k2 hk' k2' (fun c9 => absurd c9 cc) (fun _ c9 => absurd d3 c9) (fun _ _ _ => hK _ _ (rEnd_cnt h (by decide))) (fun _ _ _ _ _ _ _ _ _ _ c7 c8 => absurd ⟨c7, c8⟩ c3)))
  · have cc : ¬ (A 82 0 = 0 ∨ A 82 0 = 0) := fun q => c (q.imp (fun q => es.trans q) (fun q => et.trans q))
    have d3 : A 82 0 = A 82 0 := es.symm.trans (c2.trans et)
    refine hK _ _ (mCall_k (fun K hK => w_X9_copy (s := 0) (t := 0) (by decide) (by decide) hk k2 hk' k2' (fun c9 => absurd c9 cc) (fun _ c9 => absurd d3 c9) (fun _ _ c9 => absurd ⟨c3, c4⟩ c9) (fun _ _ i2 j2 m2 f1 f2 f3 f4 f5 _ _ F L hF hL => ?_)))
    have x1 : i2 = i := (nI_eq (by omega) (by omega)).mp (f1.symm.trans e1)
    have x2 : j2 = j := (nI_eq (by omega) (by omega)).mp (f2.symm.trans e2)
    have x3 : m2 = m := (nI_eq (by omega) (by omega)).mp (f3.symm.trans e3)
    subst x1
    subst x2
    subst x3
    have cp := rS1_cp (B' := va_up (va_up (va_up B (66 + 2 * 0) (va_cpy (B (66 + 2 * 0)) (B (66 + 2 * 0)) i2 j2 m2)) 85 F) 84 L) r0 r0 (by omega) rfl hF hL
    refine hK _ _ ⟨rfl, rfl, h.1, h.2.1, h.2.2.1, h.2.2.2.1, ?_, ?_, ?_, ?_⟩
    · first | exact cp | exact rS1_c r0 ⟨rfl, rfl⟩ rfl rfl (fun _ _ => rfl) (fun x hx => hL.2 _ (by omega))
    · first | exact cp | exact rS1_c r1 ⟨rfl, rfl⟩ rfl rfl (fun _ _ => rfl) (fun x hx => hL.2 _ (by omega))
    · first | exact cp | exact rS1_c r2 ⟨rfl, rfl⟩ rfl rfl (fun _ _ => rfl) (fun x hx => hL.2 _ (by omega))
    · first | exact cp | exact rS1_c r3 ⟨rfl, rfl⟩ rfl rfl (fun _ _ => rfl) (fun x hx => hL.2 _ (by omega))
theorem op_copy01 {E : ME} {f g n : Int32} {A : Nat → Nat → Int32} {B : Nat → Nat → Int64} (h : rAll A B) : rOp E nX8_copy nX9_copy [.int (nI 0), .int f, .int (nI 1), .int g, .int n] A B := by
  refine rOp_of (fun K hK => ?_)
  obtain ⟨r0, r1, r2, r3⟩ := h.2.2.2.2
  have es := r0.1
  have et := r1.1
  obtain ⟨k, hk, k1, k2⟩ := r0.2.2.1
  obtain ⟨k', hk', k1', k2'⟩ := r1.2.2.1
  refine w_X8_copy01 hk k1 hk' k1' (fun c => ?_) (fun c c2 => ?_) (fun c c2 c3 => ?_) (fun c c2 i j m e1 e2 e3 e4 e5 c3 c4 => ?_)
  · have cc : A 82 0 = 0 ∨ A 82 1 = 0 := c.imp (fun q => es.symm.trans q) (fun q => et.symm.trans q)
    exact hK _ _ (mCall_k (fun K hK => w_X9_copy (A := cnt1 A 5) (s := 0) (t := 1) (by decide) (by decide) hk k2 hk' k2' (fun _ => hK _ _ (rEnd_cnt h (by decide))) (fun c9 => absurd cc c9) (fun c9 => absurd cc c9) (fun c9 => absurd cc c9)))
  · have cc : ¬ (A 82 0 = 0 ∨ A 82 1 = 0) := fun q => c (q.imp (fun q => es.trans q) (fun q => et.trans q))
    have c3 : ¬ A 82 0 = A 82 1 := fun q => c2 (es.trans (q.trans et.symm))
    exact hK _ _ (mCall_k (fun K hK => w_X9_copy (A := cnt1 A 2) (s := 0) (t := 1) (by decide) (by decide) hk k2 hk' k2' (fun c9 => absurd c9 cc) (fun _ _ => hK _ _ (rEnd_cnt h (by decide))) (fun _ c9 => absurd c9 c3) (fun _ c9 => absurd c9 c3)))
  · have cc : ¬ (A 82 0 = 0 ∨ A 82 1 = 0) := fun q => c (q.imp (fun q => es.trans q) (fun q => et.trans q))
    have d3 : A 82 0 = A 82 1 := es.symm.trans (c2.trans et)
    exact hK _ _ (mCall_k (fun K hK => w_X9_copy (A := cnt1 A 0) (s := 0) (t := 1) (by decide) (by decide) hk k2 hk' k2' (fun c9 => absurd c9 cc) (fun _ c9 => absurd d3 c9) (fun _ _ _ => hK _ _ (rEnd_cnt h (by decide))) (fun _ _ _ _ _ _ _ _ _ _ c7 c8 => absurd ⟨c7, c8⟩ c3)))
  · have cc : ¬ (A 82 0 = 0 ∨ A 82 1 = 0) := fun q => c (q.imp (fun q => es.trans q) (fun q => et.trans q))
    have d3 : A 82 0 = A 82 1 := es.symm.trans (c2.trans et)
    refine hK _ _ (mCall_k (fun K hK => w_X9_copy (s := 0) (t := 1) (by decide) (by decide) hk k2 hk' k2' (fun c9 => absurd c9 cc) (fun _ c9 => absurd d3 c9) (fun _ _ c9 => absurd ⟨c3, c4⟩ c9) (fun _ _ i2 j2 m2 f1 f2 f3 f4 f5 _ _ F L hF hL => ?_)))
    have x1 : i2 = i := (nI_eq (by omega) (by omega)).mp (f1.symm.trans e1)
    have x2 : j2 = j := (nI_eq (by omega) (by omega)).mp (f2.symm.trans e2)
    have x3 : m2 = m := (nI_eq (by omega) (by omega)).mp (f3.symm.trans e3)
    subst x1
    subst x2
    subst x3
    have cp := rS1_cp (B' := va_up (va_up (va_up B (66 + 2 * 1) (va_cpy (B (66 + 2 * 0)) (B (66 + 2 * 1)) i2 j2 m2)) 85 F) 84 L) r0 r1 (by omega) rfl hF hL
    refine hK _ _ ⟨rfl, rfl, h.1, h.2.1, h.2.2.1, h.2.2.2.1, ?_, ?_, ?_, ?_⟩
    · first | exact cp | exact rS1_c r0 ⟨rfl, rfl⟩ rfl rfl (fun _ _ => rfl) (fun x hx => hL.2 _ (by omega))
    · first | exact cp | exact rS1_c r1 ⟨rfl, rfl⟩ rfl rfl (fun _ _ => rfl) (fun x hx => hL.2 _ (by omega))
    · first | exact cp | exact rS1_c r2 ⟨rfl, rfl⟩ rfl rfl (fun _ _ => rfl) (fun x hx => hL.2 _ (by omega))
    · first | exact cp | exact rS1_c r3 ⟨rfl, rfl⟩ rfl rfl (fun _ _ => rfl) (fun x hx => hL.2 _ (by omega))
theorem op_copy02 {E : ME} {f g n : Int32} {A : Nat → Nat → Int32} {B : Nat → Nat → Int64} (h : rAll A B) : rOp E nX8_copy nX9_copy [.int (nI 0), .int f, .int (nI 2), .int g, .int n] A B := by
  refine rOp_of (fun K hK => ?_)
  obtain ⟨r0, r1, r2, r3⟩ := h.2.2.2.2
  have es := r0.1
  have et := r2.1
  obtain ⟨k, hk, k1, k2⟩ := r0.2.2.1
  obtain ⟨k', hk', k1', k2'⟩ := r2.2.2.1
  refine w_X8_copy02 hk k1 hk' k1' (fun c => ?_) (fun c c2 => ?_) (fun c c2 c3 => ?_) (fun c c2 i j m e1 e2 e3 e4 e5 c3 c4 => ?_)
  · have cc : A 82 0 = 0 ∨ A 82 2 = 0 := c.imp (fun q => es.symm.trans q) (fun q => et.symm.trans q)
    exact hK _ _ (mCall_k (fun K hK => w_X9_copy (A := cnt1 A 5) (s := 0) (t := 2) (by decide) (by decide) hk k2 hk' k2' (fun _ => hK _ _ (rEnd_cnt h (by decide))) (fun c9 => absurd cc c9) (fun c9 => absurd cc c9) (fun c9 => absurd cc c9)))
  · have cc : ¬ (A 82 0 = 0 ∨ A 82 2 = 0) := fun q => c (q.imp (fun q => es.trans q) (fun q => et.trans q))
    have c3 : ¬ A 82 0 = A 82 2 := fun q => c2 (es.trans (q.trans et.symm))
    exact hK _ _ (mCall_k (fun K hK => w_X9_copy (A := cnt1 A 2) (s := 0) (t := 2) (by decide) (by decide) hk k2 hk' k2' (fun c9 => absurd c9 cc) (fun _ _ => hK _ _ (rEnd_cnt h (by decide))) (fun _ c9 => absurd c9 c3) (fun _ c9 => absurd c9 c3)))
  · have cc : ¬ (A 82 0 = 0 ∨ A 82 2 = 0) := fun q => c (q.imp (fun q => es.trans q) (fun q => et.trans q))
    have d3 : A 82 0 = A 82 2 := es.symm.trans (c2.trans et)
    exact hK _ _ (mCall_k (fun K hK => w_X9_copy (A := cnt1 A 0) (s := 0) (t := 2) (by decide) (by decide) hk k2 hk' k2' (fun c9 => absurd c9 cc) (fun _ c9 => absurd d3 c9) (fun _ _ _ => hK _ _ (rEnd_cnt h (by decide))) (fun _ _ _ _ _ _ _ _ _ _ c7 c8 => absurd ⟨c7, c8⟩ c3)))
  · have cc : ¬ (A 82 0 = 0 ∨ A 82 2 = 0) := fun q => c (q.imp (fun q => es.trans q) (fun q => et.trans q))
    have d3 : A 82 0 = A 82 2 := es.symm.trans (c2.trans et)
    refine hK _ _ (mCall_k (fun K hK => w_X9_copy (s := 0) (t := 2) (by decide) (by decide) hk k2 hk' k2' (fun c9 => absurd c9 cc) (fun _ c9 => absurd d3 c9) (fun _ _ c9 => absurd ⟨c3, c4⟩ c9) (fun _ _ i2 j2 m2 f1 f2 f3 f4 f5 _ _ F L hF hL => ?_)))
    have x1 : i2 = i := (nI_eq (by omega) (by omega)).mp (f1.symm.trans e1)
    have x2 : j2 = j := (nI_eq (by omega) (by omega)).mp (f2.symm.trans e2)
    have x3 : m2 = m := (nI_eq (by omega) (by omega)).mp (f3.symm.trans e3)
    subst x1
    subst x2
    subst x3
    have cp := rS1_cp (B' := va_up (va_up (va_up B (66 + 2 * 2) (va_cpy (B (66 + 2 * 0)) (B (66 + 2 * 2)) i2 j2 m2)) 85 F) 84 L) r0 r2 (by omega) rfl hF hL
    refine hK _ _ ⟨rfl, rfl, h.1, h.2.1, h.2.2.1, h.2.2.2.1, ?_, ?_, ?_, ?_⟩
    · first | exact cp | exact rS1_c r0 ⟨rfl, rfl⟩ rfl rfl (fun _ _ => rfl) (fun x hx => hL.2 _ (by omega))
    · first | exact cp | exact rS1_c r1 ⟨rfl, rfl⟩ rfl rfl (fun _ _ => rfl) (fun x hx => hL.2 _ (by omega))
    · first | exact cp | exact rS1_c r2 ⟨rfl, rfl⟩ rfl rfl (fun _ _ => rfl) (fun x hx => hL.2 _ (by omega))
    · first | exact cp | exact rS1_c r3 ⟨rfl, rfl⟩ rfl rfl (fun _ _ => rfl) (fun x hx => hL.2 _ (by omega))
theorem op_copy03 {E : ME} {f g n : Int32} {A : Nat → Nat → Int32} {B : Nat → Nat → Int64} (h : rAll A B) : rOp E nX8_copy nX9_copy [.int (nI 0), .int f, .int (nI 3), .int g, .int n] A B := by
  refine rOp_of (fun K hK => ?_)
  obtain ⟨r0, r1, r2, r3⟩ := h.2.2.2.2
  have es := r0.1
  have et := r3.1
  obtain ⟨k, hk, k1, k2⟩ := r0.2.2.1
  obtain ⟨k', hk', k1', k2'⟩ := r3.2.2.1
  refine w_X8_copy03 hk k1 hk' k1' (fun c => ?_) (fun c c2 => ?_) (fun c c2 c3 => ?_) (fun c c2 i j m e1 e2 e3 e4 e5 c3 c4 => ?_)
  · have cc : A 82 0 = 0 ∨ A 82 3 = 0 := c.imp (fun q => es.symm.trans q) (fun q => et.symm.trans q)
    exact hK _ _ (mCall_k (fun K hK => w_X9_copy (A := cnt1 A 5) (s := 0) (t := 3) (by decide) (by decide) hk k2 hk' k2' (fun _ => hK _ _ (rEnd_cnt h (by decide))) (fun c9 => absurd cc c9) (fun c9 => absurd cc c9) (fun c9 => absurd cc c9)))
  · have cc : ¬ (A 82 0 = 0 ∨ A 82 3 = 0) := fun q => c (q.imp (fun q => es.trans q) (fun q => et.trans q))
    have c3 : ¬ A 82 0 = A 82 3 := fun q => c2 (es.trans (q.trans et.symm))
    exact hK _ _ (mCall_k (fun K hK => w_X9_copy (A := cnt1 A 2) (s := 0) (t := 3) (by decide) (by decide) hk k2 hk' k2' (fun c9 => absurd c9 cc) (fun _ _ => hK _ _ (rEnd_cnt h (by decide))) (fun _ c9 => absurd c9 c3) (fun _ c9 => absurd c9 c3)))
  · have cc : ¬ (A 82 0 = 0 ∨ A 82 3 = 0) := fun q => c (q.imp (fun q => es.trans q) (fun q => et.trans q))
    have d3 : A 82 0 = A 82 3 := es.symm.trans (c2.trans et)
    exact hK _ _ (mCall_k (fun K hK => w_X9_copy (A := cnt1 A 0) (s := 0) (t := 3) (by decide) (by decide) hk k2 hk' k2' (fun c9 => absurd c9 cc) (fun _ c9 => absurd d3 c9) (fun _ _ _ => hK _ _ (rEnd_cnt h (by decide))) (fun _ _ _ _ _ _ _ _ _ _ c7 c8 => absurd ⟨c7, c8⟩ c3)))
  · have cc : ¬ (A 82 0 = 0 ∨ A 82 3 = 0) := fun q => c (q.imp (fun q => es.trans q) (fun q => et.trans q))
    have d3 : A 82 0 = A 82 3 := es.symm.trans (c2.trans et)
    refine hK _ _ (mCall_k (fun K hK => w_X9_copy (s := 0) (t := 3) (by decide) (by decide) hk k2 hk' k2' (fun c9 => absurd c9 cc) (fun _ c9 => absurd d3 c9) (fun _ _ c9 => absurd ⟨c3, c4⟩ c9) (fun _ _ i2 j2 m2 f1 f2 f3 f4 f5 _ _ F L hF hL => ?_)))
    have x1 : i2 = i := (nI_eq (by omega) (by omega)).mp (f1.symm.trans e1)
    have x2 : j2 = j := (nI_eq (by omega) (by omega)).mp (f2.symm.trans e2)
    have x3 : m2 = m := (nI_eq (by omega) (by omega)).mp (f3.symm.trans e3)
    subst x1
    subst x2
    subst x3
    have cp := rS1_cp (B' := va_up (va_up (va_up B (66 + 2 * 3) (va_cpy (B (66 + 2 * 0)) (B (66 + 2 * 3)) i2 j2 m2)) 85 F) 84 L) r0 r3 (by omega) rfl hF hL
    refine hK _ _ ⟨rfl, rfl, h.1, h.2.1, h.2.2.1, h.2.2.2.1, ?_, ?_, ?_, ?_⟩
    · first | exact cp | exact rS1_c r0 ⟨rfl, rfl⟩ rfl rfl (fun _ _ => rfl) (fun x hx => hL.2 _ (by omega))
    · first | exact cp | exact rS1_c r1 ⟨rfl, rfl⟩ rfl rfl (fun _ _ => rfl) (fun x hx => hL.2 _ (by omega))
    · first | exact cp | exact rS1_c r2 ⟨rfl, rfl⟩ rfl rfl (fun _ _ => rfl) (fun x hx => hL.2 _ (by omega))
    · first | exact cp | exact rS1_c r3 ⟨rfl, rfl⟩ rfl rfl (fun _ _ => rfl) (fun x hx => hL.2 _ (by omega))
theorem op_copy10 {E : ME} {f g n : Int32} {A : Nat → Nat → Int32} {B : Nat → Nat → Int64} (h : rAll A B) : rOp E nX8_copy nX9_copy [.int (nI 1), .int f, .int (nI 0), .int g, .int n] A B := by
  refine rOp_of (fun K hK => ?_)
  obtain ⟨r0, r1, r2, r3⟩ := h.2.2.2.2
  have es := r1.1
  have et := r0.1
  obtain ⟨k, hk, k1, k2⟩ := r1.2.2.1
  obtain ⟨k', hk', k1', k2'⟩ := r0.2.2.1
  refine w_X8_copy10 hk k1 hk' k1' (fun c => ?_) (fun c c2 => ?_) (fun c c2 c3 => ?_) (fun c c2 i j m e1 e2 e3 e4 e5 c3 c4 => ?_)
  · have cc : A 82 1 = 0 ∨ A 82 0 = 0 := c.imp (fun q => es.symm.trans q) (fun q => et.symm.trans q)
    exact hK _ _ (mCall_k (fun K hK => w_X9_copy (A := cnt1 A 5) (s := 1) (t := 0) (by decide) (by decide) hk k2 hk' k2' (fun _ => hK _ _ (rEnd_cnt h (by decide))) (fun c9 => absurd cc c9) (fun c9 => absurd cc c9) (fun c9 => absurd cc c9)))
  · have cc : ¬ (A 82 1 = 0 ∨ A 82 0 = 0) := fun q => c (q.imp (fun q => es.trans q) (fun q => et.trans q))
    have c3 : ¬ A 82 1 = A 82 0 := fun q => c2 (es.trans (q.trans et.symm))
    exact hK _ _ (mCall_k (fun K hK => w_X9_copy (A := cnt1 A 2) (s := 1) (t := 0) (by decide) (by decide) hk k2 hk' k2' (fun c9 => absurd c9 cc) (fun _ _ => hK _ _ (rEnd_cnt h (by decide))) (fun _ c9 => absurd c9 c3) (fun _ c9 => absurd c9 c3)))
  · have cc : ¬ (A 82 1 = 0 ∨ A 82 0 = 0) := fun q => c (q.imp (fun q => es.trans q) (fun q => et.trans q))
    have d3 : A 82 1 = A 82 0 := es.symm.trans (c2.trans et)
    exact hK _ _ (mCall_k (fun K hK => w_X9_copy (A := cnt1 A 0) (s := 1) (t := 0) (by decide) (by decide) hk k2 hk' k2' (fun c9 => absurd c9 cc) (fun _ c9 => absurd d3 c9) (fun _ _ _ => hK _ _ (rEnd_cnt h (by decide))) (fun _ _ _ _ _ _ _ _ _ _ c7 c8 => absurd ⟨c7, c8⟩ c3)))
  · have cc : ¬ (A 82 1 = 0 ∨ A 82 0 = 0) := fun q => c (q.imp (fun q => es.trans q) (fun q => et.trans q))
    have d3 : A 82 1 = A 82 0 := es.symm.trans (c2.trans et)
    refine hK _ _ (mCall_k (fun K hK => w_X9_copy (s := 1) (t := 0) (by decide) (by decide) hk k2 hk' k2' (fun c9 => absurd c9 cc) (fun _ c9 => absurd d3 c9) (fun _ _ c9 => absurd ⟨c3, c4⟩ c9) (fun _ _ i2 j2 m2 f1 f2 f3 f4 f5 _ _ F L hF hL => ?_)))
    have x1 : i2 = i := (nI_eq (by omega) (by omega)).mp (f1.symm.trans e1)
    have x2 : j2 = j := (nI_eq (by omega) (by omega)).mp (f2.symm.trans e2)
    have x3 : m2 = m := (nI_eq (by omega) (by omega)).mp (f3.symm.trans e3)
    subst x1
    subst x2
    subst x3
    have cp := rS1_cp (B' := va_up (va_up (va_up B (66 + 2 * 0) (va_cpy (B (66 + 2 * 1)) (B (66 + 2 * 0)) i2 j2 m2)) 85 F) 84 L) r1 r0 (by omega) rfl hF hL
    refine hK _ _ ⟨rfl, rfl, h.1, h.2.1, h.2.2.1, h.2.2.2.1, ?_, ?_, ?_, ?_⟩
    · first | exact cp | exact rS1_c r0 ⟨rfl, rfl⟩ rfl rfl (fun _ _ => rfl) (fun x hx => hL.2 _ (by omega))
    · first | exact cp | exact rS1_c r1 ⟨rfl, rfl⟩ rfl rfl (fun _ _ => rfl) (fun x hx => hL.2 _ (by omega))
    · first | exact cp | exact rS1_c r2 ⟨rfl, rfl⟩ rfl rfl (fun _ _ => rfl) (fun x hx => hL.2 _ (by omega))
    · first | exact cp | exact rS1_c r3 ⟨rfl, rfl⟩ rfl rfl (fun _ _ => rfl) (fun x hx => hL.2 _ (by omega))
theorem op_copy11 {E : ME} {f g n : Int32} {A : Nat → Nat → Int32} {B : Nat → Nat → Int64} (h : rAll A B) : rOp E nX8_copy nX9_copy [.int (nI 1), .int f, .int (nI 1), .int g, .int n] A B := by
  refine rOp_of (fun K hK => ?_)
  obtain ⟨r0, r1, r2, r3⟩ := h.2.2.2.2
  have es := r1.1
  have et := r1.1
  obtain ⟨k, hk, k1, k2⟩ := r1.2.2.1
  obtain ⟨k', hk', k1', k2'⟩ := r1.2.2.1
  refine w_X8_copy11 hk k1 hk' k1' (fun c => ?_) (fun c c2 => ?_) (fun c c2 c3 => ?_) (fun c c2 i j m e1 e2 e3 e4 e5 c3 c4 => ?_)
  · have cc : A 82 1 = 0 ∨ A 82 1 = 0 := c.imp (fun q => es.symm.trans q) (fun q => et.symm.trans q)
    exact hK _ _ (mCall_k (fun K hK => w_X9_copy (A := cnt1 A 5) (s := 1) (t := 1) (by decide) (by decide) hk k2 hk' k2' (fun _ => hK _ _ (rEnd_cnt h (by decide))) (fun c9 => absurd cc c9) (fun c9 => absurd cc c9) (fun c9 => absurd cc c9)))
  · have cc : ¬ (A 82 1 = 0 ∨ A 82 1 = 0) := fun q => c (q.imp (fun q => es.trans q) (fun q => et.trans q))
    have c3 : ¬ A 82 1 = A 82 1 := fun q => c2 (es.trans (q.trans et.symm))
    exact hK _ _ (mCall_k (fun K hK => w_X9_copy (A := cnt1 A 2) (s := 1) (t := 1) (by decide) (by decide) hk k2 hk' k2' (fun c9 => absurd c9 cc) (fun _ _ => hK _ _ (rEnd_cnt h (by decide))) (fun _ c9 => absurd c9 c3) (fun _ c9 => absurd c9 c3)))
  · have cc : ¬ (A 82 1 = 0 ∨ A 82 1 = 0) := fun q => c (q.imp (fun q => es.trans q) (fun q => et.trans q))
    have d3 : A 82 1 = A 82 1 := es.symm.trans (c2.trans et)
    exact hK _ _ (mCall_k (fun K hK => w_X9_copy (A := cnt1 A 0) (s := 1) (t := 1) (by decide) (by decide) hk k2 hk' k2' (fun c9 => absurd c9 cc) (fun _ c9 => absurd d3 c9) (fun _ _ _ => hK _ _ (rEnd_cnt h (by decide))) (fun _ _ _ _ _ _ _ _ _ _ c7 c8 => absurd ⟨c7, c8⟩ c3)))
  · have cc : ¬ (A 82 1 = 0 ∨ A 82 1 = 0) := fun q => c (q.imp (fun q => es.trans q) (fun q => et.trans q))
    have d3 : A 82 1 = A 82 1 := es.symm.trans (c2.trans et)
    refine hK _ _ (mCall_k (fun K hK => w_X9_copy (s := 1) (t := 1) (by decide) (by decide) hk k2 hk' k2' (fun c9 => absurd c9 cc) (fun _ c9 => absurd d3 c9) (fun _ _ c9 => absurd ⟨c3, c4⟩ c9) (fun _ _ i2 j2 m2 f1 f2 f3 f4 f5 _ _ F L hF hL => ?_)))
    have x1 : i2 = i := (nI_eq (by omega) (by omega)).mp (f1.symm.trans e1)
    have x2 : j2 = j := (nI_eq (by omega) (by omega)).mp (f2.symm.trans e2)
    have x3 : m2 = m := (nI_eq (by omega) (by omega)).mp (f3.symm.trans e3)
    subst x1
    subst x2
    subst x3
    have cp := rS1_cp (B' := va_up (va_up (va_up B (66 + 2 * 1) (va_cpy (B (66 + 2 * 1)) (B (66 + 2 * 1)) i2 j2 m2)) 85 F) 84 L) r1 r1 (by omega) rfl hF hL
    refine hK _ _ ⟨rfl, rfl, h.1, h.2.1, h.2.2.1, h.2.2.2.1, ?_, ?_, ?_, ?_⟩
    · first | exact cp | exact rS1_c r0 ⟨rfl, rfl⟩ rfl rfl (fun _ _ => rfl) (fun x hx => hL.2 _ (by omega))
    · first | exact cp | exact rS1_c r1 ⟨rfl, rfl⟩ rfl rfl (fun _ _ => rfl) (fun x hx => hL.2 _ (by omega))
    · first | exact cp | exact rS1_c r2 ⟨rfl, rfl⟩ rfl rfl (fun _ _ => rfl) (fun x hx => hL.2 _ (by omega))
    · first | exact cp | exact rS1_c r3 ⟨rfl, rfl⟩ rfl rfl (fun _ _ => rfl) (fun x hx => hL.2 _ (by omega))
theorem op_copy12 {E : ME} {f g n : Int32} {A : Nat → Nat → Int32} {B : Nat → Nat → Int64} (h : rAll A B) : rOp E nX8_copy nX9_copy [.int (nI 1), .int f, .int (nI 2), .int g, .int n] A B := by
  refine rOp_of (fun K hK => ?_)
  obtain ⟨r0, r1, r2, r3⟩ := h.2.2.2.2
  have es := r1.1
  have et := r2.1
  obtain ⟨k, hk, k1, k2⟩ := r1.2.2.1
  obtain ⟨k', hk', k1', k2'⟩ := r2.2.2.1
  refine w_X8_copy12 hk k1 hk' k1' (fun c => ?_) (fun c c2 => ?_) (fun c c2 c3 => ?_) (fun c c2 i j m e1 e2 e3 e4 e5 c3 c4 => ?_)
  · have cc : A 82 1 = 0 ∨ A 82 2 = 0 := c.imp (fun q => es.symm.trans q) (fun q => et.symm.trans q)
    exact hK _ _ (mCall_k (fun K hK => w_X9_copy (A := cnt1 A 5) (s := 1) (t := 2) (by decide) (by decide) hk k2 hk' k2' (fun _ => hK _ _ (rEnd_cnt h (by decide))) (fun c9 => absurd cc c9) (fun c9 => absurd cc c9) (fun c9 => absurd cc c9)))
  · have cc : ¬ (A 82 1 = 0 ∨ A 82 2 = 0) := fun q => c (q.imp (fun q => es.trans q) (fun q => et.trans q))
    have c3 : ¬ A 82 1 = A 82 2 := fun q => c2 (es.trans (q.trans et.symm))
    exact hK _ _ (mCall_k (fun K hK => w_X9_copy (A := cnt1 A 2) (s := 1) (t := 2) (by decide) (by decide) hk k2 hk' k2' (fun c9 => absurd c9 cc) (fun _ _ => hK _ _ (rEnd_cnt h (by decide))) (fun _ c9 => absurd c9 c3) (fun _ c9 => absurd c9 c3)))
  · have cc : ¬ (A 82 1 = 0 ∨ A 82 2 = 0) := fun q => c (q.imp (fun q => es.trans q) (fun q => et.trans q))
    have d3 : A 82 1 = A 82 2 := es.symm.trans (c2.trans et)
    exact hK _ _ (mCall_k (fun K hK => w_X9_copy (A := cnt1 A 0) (s := 1) (t := 2) (by decide) (by decide) hk k2 hk' k2' (fun c9 => absurd c9 cc) (fun _ c9 => absurd d3 c9) (fun _ _ _ => hK _ _ (rEnd_cnt h (by decide))) (fun _ _ _ _ _ _ _ _ _ _ c7 c8 => absurd ⟨c7, c8⟩ c3)))
  · have cc : ¬ (A 82 1 = 0 ∨ A 82 2 = 0) := fun q => c (q.imp (fun q => es.trans q) (fun q => et.trans q))
    have d3 : A 82 1 = A 82 2 := es.symm.trans (c2.trans et)
    refine hK _ _ (mCall_k (fun K hK => w_X9_copy (s := 1) (t := 2) (by decide) (by decide) hk k2 hk' k2' (fun c9 => absurd c9 cc) (fun _ c9 => absurd d3 c9) (fun _ _ c9 => absurd ⟨c3, c4⟩ c9) (fun _ _ i2 j2 m2 f1 f2 f3 f4 f5 _ _ F L hF hL => ?_)))
    have x1 : i2 = i := (nI_eq (by omega) (by omega)).mp (f1.symm.trans e1)
    have x2 : j2 = j := (nI_eq (by omega) (by omega)).mp (f2.symm.trans e2)
    have x3 : m2 = m := (nI_eq (by omega) (by omega)).mp (f3.symm.trans e3)
    subst x1
    subst x2
    subst x3
    have cp := rS1_cp (B' := va_up (va_up (va_up B (66 + 2 * 2) (va_cpy (B (66 + 2 * 1)) (B (66 + 2 * 2)) i2 j2 m2)) 85 F) 84 L) r1 r2 (by omega) rfl hF hL
    refine hK _ _ ⟨rfl, rfl, h.1, h.2.1, h.2.2.1, h.2.2.2.1, ?_, ?_, ?_, ?_⟩
    · first | exact cp | exact rS1_c r0 ⟨rfl, rfl⟩ rfl rfl (fun _ _ => rfl) (fun x hx => hL.2 _ (by omega))
    · first | exact cp | exact rS1_c r1 ⟨rfl, rfl⟩ rfl rfl (fun _ _ => rfl) (fun x hx => hL.2 _ (by omega))
    · first | exact cp | exact rS1_c r2 ⟨rfl, rfl⟩ rfl rfl (fun _ _ => rfl) (fun x hx => hL.2 _ (by omega))
    · first | exact cp | exact rS1_c r3 ⟨rfl, rfl⟩ rfl rfl (fun _ _ => rfl) (fun x hx => hL.2 _ (by omega))
theorem op_copy13 {E : ME} {f g n : Int32} {A : Nat → Nat → Int32} {B : Nat → Nat → Int64} (h : rAll A B) : rOp E nX8_copy nX9_copy [.int (nI 1), .int f, .int (nI 3), .int g, .int n] A B := by
  refine rOp_of (fun K hK => ?_)
  obtain ⟨r0, r1, r2, r3⟩ := h.2.2.2.2
  have es := r1.1
  have et := r3.1
  obtain ⟨k, hk, k1, k2⟩ := r1.2.2.1
  obtain ⟨k', hk', k1', k2'⟩ := r3.2.2.1
  refine w_X8_copy13 hk k1 hk' k1' (fun c => ?_) (fun c c2 => ?_) (fun c c2 c3 => ?_) (fun c c2 i j m e1 e2 e3 e4 e5 c3 c4 => ?_)
  · have cc : A 82 1 = 0 ∨ A 82 3 = 0 := c.imp (fun q => es.symm.trans q) (fun q => et.symm.trans q)
    exact hK _ _ (mCall_k (fun K hK => w_X9_copy (A := cnt1 A 5) (s := 1) (t := 3) (by decide) (by decide) hk k2 hk' k2' (fun _ => hK _ _ (rEnd_cnt h (by decide))) (fun c9 => absurd cc c9) (fun c9 => absurd cc c9) (fun c9 => absurd cc c9)))
  · have cc : ¬ (A 82 1 = 0 ∨ A 82 3 = 0) := fun q => c (q.imp (fun q => es.trans q) (fun q => et.trans q))
    have c3 : ¬ A 82 1 = A 82 3 := fun q => c2 (es.trans (q.trans et.symm))
    exact hK _ _ (mCall_k (fun K hK => w_X9_copy (A := cnt1 A 2) (s := 1) (t := 3) (by decide) (by decide) hk k2 hk' k2' (fun c9 => absurd c9 cc) (fun _ _ => hK _ _ (rEnd_cnt h (by decide))) (fun _ c9 => absurd c9 c3) (fun _ c9 => absurd c9 c3)))
  · have cc : ¬ (A 82 1 = 0 ∨ A 82 3 = 0) := fun q => c (q.imp (fun q => es.trans q) (fun q => et.trans q))
    have d3 : A 82 1 = A 82 3 := es.symm.trans (c2.trans et)
    exact hK _ _ (mCall_k (fun K hK => w_X9_copy (A := cnt1 A 0) (s := 1) (t := 3) (by decide) (by decide) hk k2 hk' k2' (fun c9 => absurd c9 cc) (fun _ c9 => absurd d3 c9) (fun _ _ _ => hK _ _ (rEnd_cnt h (by decide))) (fun _ _ _ _ _ _ _ _ _ _ c7 c8 => absurd ⟨c7, c8⟩ c3)))
  · have cc : ¬ (A 82 1 = 0 ∨ A 82 3 = 0) := fun q => c (q.imp (fun q => es.trans q) (fun q => et.trans q))
    have d3 : A 82 1 = A 82 3 := es.symm.trans (c2.trans et)
    refine hK _ _ (mCall_k (fun K hK => w_X9_copy (s := 1) (t := 3) (by decide) (by decide) hk k2 hk' k2' (fun c9 => absurd c9 cc) (fun _ c9 => absurd d3 c9) (fun _ _ c9 => absurd ⟨c3, c4⟩ c9) (fun _ _ i2 j2 m2 f1 f2 f3 f4 f5 _ _ F L hF hL => ?_)))
    have x1 : i2 = i := (nI_eq (by omega) (by omega)).mp (f1.symm.trans e1)
    have x2 : j2 = j := (nI_eq (by omega) (by omega)).mp (f2.symm.trans e2)
    have x3 : m2 = m := (nI_eq (by omega) (by omega)).mp (f3.symm.trans e3)
    subst x1
    subst x2
    subst x3
    have cp := rS1_cp (B' := va_up (va_up (va_up B (66 + 2 * 3) (va_cpy (B (66 + 2 * 1)) (B (66 + 2 * 3)) i2 j2 m2)) 85 F) 84 L) r1 r3 (by omega) rfl hF hL
    refine hK _ _ ⟨rfl, rfl, h.1, h.2.1, h.2.2.1, h.2.2.2.1, ?_, ?_, ?_, ?_⟩
    · first | exact cp | exact rS1_c r0 ⟨rfl, rfl⟩ rfl rfl (fun _ _ => rfl) (fun x hx => hL.2 _ (by omega))
    · first | exact cp | exact rS1_c r1 ⟨rfl, rfl⟩ rfl rfl (fun _ _ => rfl) (fun x hx => hL.2 _ (by omega))
    · first | exact cp | exact rS1_c r2 ⟨rfl, rfl⟩ rfl rfl (fun _ _ => rfl) (fun x hx => hL.2 _ (by omega))
    · first | exact cp | exact rS1_c r3 ⟨rfl, rfl⟩ rfl rfl (fun _ _ => rfl) (fun x hx => hL.2 _ (by omega))
theorem op_copy20 {E : ME} {f g n : Int32} {A : Nat → Nat → Int32} {B : Nat → Nat → Int64} (h : rAll A B) : rOp E nX8_copy nX9_copy [.int (nI 2), .int f, .int (nI 0), .int g, .int n] A B := by
  refine rOp_of (fun K hK => ?_)
  obtain ⟨r0, r1, r2, r3⟩ := h.2.2.2.2
  have es := r2.1
  have et := r0.1
  obtain ⟨k, hk, k1, k2⟩ := r2.2.2.1
  obtain ⟨k', hk', k1', k2'⟩ := r0.2.2.1
  refine w_X8_copy20 hk k1 hk' k1' (fun c => ?_) (fun c c2 => ?_) (fun c c2 c3 => ?_) (fun c c2 i j m e1 e2 e3 e4 e5 c3 c4 => ?_)
  · have cc : A 82 2 = 0 ∨ A 82 0 = 0 := c.imp (fun q => es.symm.trans q) (fun q => et.symm.trans q)
    exact hK _ _ (mCall_k (fun K hK => w_X9_copy (A := cnt1 A 5) (s := 2) (t := 0) (by decide) (by decide) hk k2 hk' k2' (fun _ => hK _ _ (rEnd_cnt h (by decide))) (fun c9 => absurd cc c9) (fun c9 => absurd cc c9) (fun c9 => absurd cc c9)))
  · have cc : ¬ (A 82 2 = 0 ∨ A 82 0 = 0) := fun q => c (q.imp (fun q => es.trans q) (fun q => et.trans q))
    have c3 : ¬ A 82 2 = A 82 0 := fun q => c2 (es.trans (q.trans et.symm))
    exact hK _ _ (mCall_k (fun K hK => w_X9_copy (A := cnt1 A 2) (s := 2) (t := 0) (by decide) (by decide) hk k2 hk' k2' (fun c9 => absurd c9 cc) (fun _ _ => hK _ _ (rEnd_cnt h (by decide))) (fun _ c9 => absurd c9 c3) (fun _ c9 => absurd c9 c3)))
  · have cc : ¬ (A 82 2 = 0 ∨ A 82 0 = 0) := fun q => c (q.imp (fun q => es.trans q) (fun q => et.trans q))
    have d3 : A 82 2 = A 82 0 := es.symm.trans (c2.trans et)
    exact hK _ _ (mCall_k (fun K hK => w_X9_copy (A := cnt1 A 0) (s := 2) (t := 0) (by decide) (by decide) hk k2 hk' k2' (fun c9 => absurd c9 cc) (fun _ c9 => absurd d3 c9) (fun _ _ _ => hK _ _ (rEnd_cnt h (by decide))) (fun _ _ _ _ _ _ _ _ _ _ c7 c8 => absurd ⟨c7, c8⟩ c3)))
  · have cc : ¬ (A 82 2 = 0 ∨ A 82 0 = 0) := fun q => c (q.imp (fun q => es.trans q) (fun q => et.trans q))
    have d3 : A 82 2 = A 82 0 := es.symm.trans (c2.trans et)
    refine hK _ _ (mCall_k (fun K hK => w_X9_copy (s := 2) (t := 0) (by decide) (by decide) hk k2 hk' k2' (fun c9 => absurd c9 cc) (fun _ c9 => absurd d3 c9) (fun _ _ c9 => absurd ⟨c3, c4⟩ c9) (fun _ _ i2 j2 m2 f1 f2 f3 f4 f5 _ _ F L hF hL => ?_)))
    have x1 : i2 = i := (nI_eq (by omega) (by omega)).mp (f1.symm.trans e1)
    have x2 : j2 = j := (nI_eq (by omega) (by omega)).mp (f2.symm.trans e2)
    have x3 : m2 = m := (nI_eq (by omega) (by omega)).mp (f3.symm.trans e3)
    subst x1
    subst x2
    subst x3
    have cp := rS1_cp (B' := va_up (va_up (va_up B (66 + 2 * 0) (va_cpy (B (66 + 2 * 2)) (B (66 + 2 * 0)) i2 j2 m2)) 85 F) 84 L) r2 r0 (by omega) rfl hF hL
    refine hK _ _ ⟨rfl, rfl, h.1, h.2.1, h.2.2.1, h.2.2.2.1, ?_, ?_, ?_, ?_⟩
    · first | exact cp | exact rS1_c r0 ⟨rfl, rfl⟩ rfl rfl (fun _ _ => rfl) (fun x hx => hL.2 _ (by omega))
    · first | exact cp | exact rS1_c r1 ⟨rfl, rfl⟩ rfl rfl (fun _ _ => rfl) (fun x hx => hL.2 _ (by omega))
    · first | exact cp | exact rS1_c r2 ⟨rfl, rfl⟩ rfl rfl (fun _ _ => rfl) (fun x hx => hL.2 _ (by omega))
    · first | exact cp | exact rS1_c r3 ⟨rfl, rfl⟩ rfl rfl (fun _ _ => rfl) (fun x hx => hL.2 _ (by omega))
theorem op_copy21 {E : ME} {f g n : Int32} {A : Nat → Nat → Int32} {B : Nat → Nat → Int64} (h : rAll A B) : rOp E nX8_copy nX9_copy [.int (nI 2), .int f, .int (nI 1), .int g, .int n] A B := by
  refine rOp_of (fun K hK => ?_)
  obtain ⟨r0, r1, r2, r3⟩ := h.2.2.2.2
  have es := r2.1
  have et := r1.1
  obtain ⟨k, hk, k1, k2⟩ := r2.2.2.1
  obtain ⟨k', hk', k1', k2'⟩ := r1.2.2.1
  refine w_X8_copy21 hk k1 hk' k1' (fun c => ?_) (fun c c2 => ?_) (fun c c2 c3 => ?_) (fun c c2 i j m e1 e2 e3 e4 e5 c3 c4 => ?_)
  · have cc : A 82 2 = 0 ∨ A 82 1 = 0 := c.imp (fun q => es.symm.trans q) (fun q => et.symm.trans q)
    exact hK _ _ (mCall_k (fun K hK => w_X9_copy (A := cnt1 A 5) (s := 2) (t := 1) (by decide) (by decide) hk k2 hk' k2' (fun _ => hK _ _ (rEnd_cnt h (by decide))) (fun c9 => absurd cc c9) (fun c9 => absurd cc c9) (fun c9 => absurd cc c9)))
  · have cc : ¬ (A 82 2 = 0 ∨ A 82 1 = 0) := fun q => c (q.imp (fun q => es.trans q) (fun q => et.trans q))
    have c3 : ¬ A 82 2 = A 82 1 := fun q => c2 (es.trans (q.trans et.symm))
    exact hK _ _ (mCall_k (fun K hK => w_X9_copy (A := cnt1 A 2) (s := 2) (t := 1) (by decide) (by decide) hk k2 hk' k2' (fun c9 => absurd c9 cc) (fun _ _ => hK _ _ (rEnd_cnt h (by decide))) (fun _ c9 => absurd c9 c3) (fun _ c9 => absurd c9 c3)))
  · have cc : ¬ (A 82 2 = 0 ∨ A 82 1 = 0) := fun q => c (q.imp (fun q => es.trans q) (fun q => et.trans q))
    have d3 : A 82 2 = A 82 1 := es.symm.trans (c2.trans et)
    exact hK _ _ (mCall_k (fun K hK => w_X9_copy (A := cnt1 A 0) (s := 2) (t := 1) (by decide) (by decide) hk k2 hk' k2' (fun c9 => absurd c9 cc) (fun _ c9 => absurd d3 c9) (fun _ _ _ => hK _ _ (rEnd_cnt h (by decide))) (fun _ _ _ _ _ _ _ _ _ _ c7 c8 => absurd ⟨c7, c8⟩ c3)))
  · have cc : ¬ (A 82 2 = 0 ∨ A 82 1 = 0) := fun q => c (q.imp (fun q => es.trans q) (fun q => et.trans q))
    have d3 : A 82 2 = A 82 1 := es.symm.trans (c2.trans et)
    refine hK _ _ (mCall_k (fun K hK => w_X9_copy (s := 2) (t := 1) (by decide) (by decide) hk k2 hk' k2' (fun c9 => absurd c9 cc) (fun _ c9 => absurd d3 c9) (fun _ _ c9 => absurd ⟨c3, c4⟩ c9) (fun _ _ i2 j2 m2 f1 f2 f3 f4 f5 _ _ F L hF hL => ?_)))
    have x1 : i2 = i := (nI_eq (by omega) (by omega)).mp (f1.symm.trans e1)
    have x2 : j2 = j := (nI_eq (by omega) (by omega)).mp (f2.symm.trans e2)
    have x3 : m2 = m := (nI_eq (by omega) (by omega)).mp (f3.symm.trans e3)
    subst x1
    subst x2
    subst x3
    have cp := rS1_cp (B' := va_up (va_up (va_up B (66 + 2 * 1) (va_cpy (B (66 + 2 * 2)) (B (66 + 2 * 1)) i2 j2 m2)) 85 F) 84 L) r2 r1 (by omega) rfl hF hL
    refine hK _ _ ⟨rfl, rfl, h.1, h.2.1, h.2.2.1, h.2.2.2.1, ?_, ?_, ?_, ?_⟩
    · first | exact cp | exact rS1_c r0 ⟨rfl, rfl⟩ rfl rfl (fun _ _ => rfl) (fun x hx => hL.2 _ (by omega))
    · first | exact cp | exact rS1_c r1 ⟨rfl, rfl⟩ rfl rfl (fun _ _ => rfl) (fun x hx => hL.2 _ (by omega))
    · first | exact cp | exact rS1_c r2 ⟨rfl, rfl⟩ rfl rfl (fun _ _ => rfl) (fun x hx => hL.2 _ (by omega))
    · first | exact cp | exact rS1_c r3 ⟨rfl, rfl⟩ rfl rfl (fun _ _ => rfl) (fun x hx => hL.2 _ (by omega))
theorem op_copy22 {E : ME} {f g n : Int32} {A : Nat → Nat → Int32} {B : Nat → Nat → Int64} (h : rAll A B) : rOp E nX8_copy nX9_copy [.int (nI 2), .int f, .int (nI 2), .int g, .int n] A B := by
  refine rOp_of (fun K hK => ?_)
  obtain ⟨r0, r1, r2, r3⟩ := h.2.2.2.2
  have es := r2.1
  have et := r2.1
  obtain ⟨k, hk, k1, k2⟩ := r2.2.2.1
  obtain ⟨k', hk', k1', k2'⟩ := r2.2.2.1
  refine w_X8_copy22 hk k1 hk' k1' (fun c => ?_) (fun c c2 => ?_) (fun c c2 c3 => ?_) (fun c c2 i j m e1 e2 e3 e4 e5 c3 c4 => ?_)
  · have cc : A 82 2 = 0 ∨ A 82 2 = 0 := c.imp (fun q => es.symm.trans q) (fun q => et.symm.trans q)
    exact hK _ _ (mCall_k (fun K hK => w_X9_copy (A := cnt1 A 5) (s := 2) (t := 2) (by decide) (by decide) hk k2 hk' k2' (fun _ => hK _ _ (rEnd_cnt h (by decide))) (fun c9 => absurd cc c9) (fun c9 => absurd cc c9) (fun c9 => absurd cc c9)))
  · have cc : ¬ (A 82 2 = 0 ∨ A 82 2 = 0) := fun q => c (q.imp (fun q => es.trans q) (fun q => et.trans q))
    have c3 : ¬ A 82 2 = A 82 2 := fun q => c2 (es.trans (q.trans et.symm))
    exact hK _ _ (mCall_k (fun K hK => w_X9_copy (A := cnt1 A 2) (s := 2) (t := 2) (by decide) (by decide) hk k2 hk' k2' (fun c9 => absurd c9 cc) (fun _ _ => hK _ _ (rEnd_cnt h (by decide))) (fun _ c9 => absurd c9 c3) (fun _ c9 => absurd c9 c3)))
  · have cc : ¬ (A 82 2 = 0 ∨ A 82 2 = 0) := fun q => c (q.imp (fun q => es.trans q) (fun q => et.trans q))
    have d3 : A 82 2 = A 82 2 := es.symm.trans (c2.trans et)
    exact hK _ _ (mCall_k (fun K hK => w_X9_copy (A := cnt1 A 0) (s := 2) (t := 2) (by decide) (by decide) hk k2 hk' k2' (fun c9 => absurd c9 cc) (fun _ c9 => absurd d3 c9) (fun _ _ _ => hK _ _ (rEnd_cnt h (by decide))) (fun _ _ _ _ _ _ _ _ _ _ c7 c8 => absurd ⟨c7, c8⟩ c3)))
  · have cc : ¬ (A 82 2 = 0 ∨ A 82 2 = 0) := fun q => c (q.imp (fun q => es.trans q) (fun q => et.trans q))
    have d3 : A 82 2 = A 82 2 := es.symm.trans (c2.trans et)
    refine hK _ _ (mCall_k (fun K hK => w_X9_copy (s := 2) (t := 2) (by decide) (by decide) hk k2 hk' k2' (fun c9 => absurd c9 cc) (fun _ c9 => absurd d3 c9) (fun _ _ c9 => absurd ⟨c3, c4⟩ c9) (fun _ _ i2 j2 m2 f1 f2 f3 f4 f5 _ _ F L hF hL => ?_)))
    have x1 : i2 = i := (nI_eq (by omega) (by omega)).mp (f1.symm.trans e1)
    have x2 : j2 = j := (nI_eq (by omega) (by omega)).mp (f2.symm.trans e2)
    have x3 : m2 = m := (nI_eq (by omega) (by omega)).mp (f3.symm.trans e3)
    subst x1
    subst x2
    subst x3
    have cp := rS1_cp (B' := va_up (va_up (va_up B (66 + 2 * 2) (va_cpy (B (66 + 2 * 2)) (B (66 + 2 * 2)) i2 j2 m2)) 85 F) 84 L) r2 r2 (by omega) rfl hF hL
    refine hK _ _ ⟨rfl, rfl, h.1, h.2.1, h.2.2.1, h.2.2.2.1, ?_, ?_, ?_, ?_⟩
    · first | exact cp | exact rS1_c r0 ⟨rfl, rfl⟩ rfl rfl (fun _ _ => rfl) (fun x hx => hL.2 _ (by omega))
    · first | exact cp | exact rS1_c r1 ⟨rfl, rfl⟩ rfl rfl (fun _ _ => rfl) (fun x hx => hL.2 _ (by omega))
    · first | exact cp | exact rS1_c r2 ⟨rfl, rfl⟩ rfl rfl (fun _ _ => rfl) (fun x hx => hL.2 _ (by omega))
    · first | exact cp | exact rS1_c r3 ⟨rfl, rfl⟩ rfl rfl (fun _ _ => rfl) (fun x hx => hL.2 _ (by omega))
theorem op_copy23 {E : ME} {f g n : Int32} {A : Nat → Nat → Int32} {B : Nat → Nat → Int64} (h : rAll A B) : rOp E nX8_copy nX9_copy [.int (nI 2), .int f, .int (nI 3), .int g, .int n] A B := by
  refine rOp_of (fun K hK => ?_)
  obtain ⟨r0, r1, r2, r3⟩ := h.2.2.2.2
  have es := r2.1
  have et := r3.1
  obtain ⟨k, hk, k1, k2⟩ := r2.2.2.1
  obtain ⟨k', hk', k1', k2'⟩ := r3.2.2.1
  refine w_X8_copy23 hk k1 hk' k1' (fun c => ?_) (fun c c2 => ?_) (fun c c2 c3 => ?_) (fun c c2 i j m e1 e2 e3 e4 e5 c3 c4 => ?_)
  · have cc : A 82 2 = 0 ∨ A 82 3 = 0 := c.imp (fun q => es.symm.trans q) (fun q => et.symm.trans q)
    exact hK _ _ (mCall_k (fun K hK => w_X9_copy (A := cnt1 A 5) (s := 2) (t := 3) (by decide) (by decide) hk k2 hk' k2' (fun _ => hK _ _ (rEnd_cnt h (by decide))) (fun c9 => absurd cc c9) (fun c9 => absurd cc c9) (fun c9 => absurd cc c9)))
  · have cc : ¬ (A 82 2 = 0 ∨ A 82 3 = 0) := fun q => c (q.imp (fun q => es.trans q) (fun q => et.trans q))
    have c3 : ¬ A 82 2 = A 82 3 := fun q => c2 (es.trans (q.trans et.symm))
    exact hK _ _ (mCall_k (fun K hK => w_X9_copy (A := cnt1 A 2) (s := 2) (t := 3) (by decide) (by decide) hk k2 hk' k2' (fun c9 => absurd c9 cc) (fun _ _ => hK _ _ (rEnd_cnt h (by decide))) (fun _ c9 => absurd c9 c3) (fun _ c9 => absurd c9 c3)))
  · have cc : ¬ (A 82 2 = 0 ∨ A 82 3 = 0) := fun q => c (q.imp (fun q => es.trans q) (fun q => et.trans q))
    have d3 : A 82 2 = A 82 3 := es.symm.trans (c2.trans et)
    exact hK _ _ (mCall_k (fun K hK => w_X9_copy (A := cnt1 A 0) (s := 2) (t := 3) (by decide) (by decide) hk k2 hk' k2' (fun c9 => absurd c9 cc) (fun _ c9 => absurd d3 c9) (fun _ _ _ => hK _ _ (rEnd_cnt h (by decide))) (fun _ _ _ _ _ _ _ _ _ _ c7 c8 => absurd ⟨c7, c8⟩ c3)))
  · have cc : ¬ (A 82 2 = 0 ∨ A 82 3 = 0) := fun q => c (q.imp (fun q => es.trans q) (fun q => et.trans q))
    have d3 : A 82 2 = A 82 3 := es.symm.trans (c2.trans et)
    refine hK _ _ (mCall_k (fun K hK => w_X9_copy (s := 2) (t := 3) (by decide) (by decide) hk k2 hk' k2' (fun c9 => absurd c9 cc) (fun _ c9 => absurd d3 c9) (fun _ _ c9 => absurd ⟨c3, c4⟩ c9) (fun _ _ i2 j2 m2 f1 f2 f3 f4 f5 _ _ F L hF hL => ?_)))
    have x1 : i2 = i := (nI_eq (by omega) (by omega)).mp (f1.symm.trans e1)
    have x2 : j2 = j := (nI_eq (by omega) (by omega)).mp (f2.symm.trans e2)
    have x3 : m2 = m := (nI_eq (by omega) (by omega)).mp (f3.symm.trans e3)
    subst x1
    subst x2
    subst x3
    have cp := rS1_cp (B' := va_up (va_up (va_up B (66 + 2 * 3) (va_cpy (B (66 + 2 * 2)) (B (66 + 2 * 3)) i2 j2 m2)) 85 F) 84 L) r2 r3 (by omega) rfl hF hL
    refine hK _ _ ⟨rfl, rfl, h.1, h.2.1, h.2.2.1, h.2.2.2.1, ?_, ?_, ?_, ?_⟩
    · first | exact cp | exact rS1_c r0 ⟨rfl, rfl⟩ rfl rfl (fun _ _ => rfl) (fun x hx => hL.2 _ (by omega))
    · first | exact cp | exact rS1_c r1 ⟨rfl, rfl⟩ rfl rfl (fun _ _ => rfl) (fun x hx => hL.2 _ (by omega))
    · first | exact cp | exact rS1_c r2 ⟨rfl, rfl⟩ rfl rfl (fun _ _ => rfl) (fun x hx => hL.2 _ (by omega))
    · first | exact cp | exact rS1_c r3 ⟨rfl, rfl⟩ rfl rfl (fun _ _ => rfl) (fun x hx => hL.2 _ (by omega))
theorem op_copy30 {E : ME} {f g n : Int32} {A : Nat → Nat → Int32} {B : Nat → Nat → Int64} (h : rAll A B) : rOp E nX8_copy nX9_copy [.int (nI 3), .int f, .int (nI 0), .int g, .int n] A B := by
  refine rOp_of (fun K hK => ?_)
  obtain ⟨r0, r1, r2, r3⟩ := h.2.2.2.2
  have es := r3.1
  have et := r0.1
  obtain ⟨k, hk, k1, k2⟩ := r3.2.2.1
  obtain ⟨k', hk', k1', k2'⟩ := r0.2.2.1
  refine w_X8_copy30 hk k1 hk' k1' (fun c => ?_) (fun c c2 => ?_) (fun c c2 c3 => ?_) (fun c c2 i j m e1 e2 e3 e4 e5 c3 c4 => ?_)
  · have cc : A 82 3 = 0 ∨ A 82 0 = 0 := c.imp (fun q => es.symm.trans q) (fun q => et.symm.trans q)
    exact hK _ _ (mCall_k (fun K hK => w_X9_copy (A := cnt1 A 5) (s := 3) (t := 0) (by decide) (by decide) hk k2 hk' k2' (fun _ => hK _ _ (rEnd_cnt h (by decide))) (fun c9 => absurd cc c9) (fun c9 => absurd cc c9) (fun c9 => absurd cc c9)))
  · have cc : ¬ (A 82 3 = 0 ∨ A 82 0 = 0) := fun q => c (q.imp (fun q => es.trans q) (fun q => et.trans q))
    have c3 : ¬ A 82 3 = A 82 0 := fun q => c2 (es.trans (q.trans et.symm))
    exact hK _ _ (mCall_k (fun K hK => w_X9_copy (A := cnt1 A 2) (s := 3) (t := 0) (by decide) (by decide) hk k2 hk' k2' (fun c9 => absurd c9 cc) (fun _ _ => hK _ _ (rEnd_cnt h (by decide))) (fun _ c9 => absurd c9 c3) (fun _ c9 => absurd c9 c3)))
  · have cc : ¬ (A 82 3 = 0 ∨ A 82 0 = 0) := fun q => c (q.imp (fun q => es.trans q) (fun q => et.trans q))
    have d3 : A 82 3 = A 82 0 := es.symm.trans (c2.trans et)
    exact hK _ _ (mCall_k (fun K hK => w_X9_copy (A := cnt1 A 0) (s := 3) (t := 0) (by decide) (by decide) hk k2 hk' k2' (fun c9 => absurd c9 cc) (fun _ c9 => absurd d3 c9) (fun _ _ _ => hK _ _ (rEnd_cnt h (by decide))) (fun _ _ _ _ _ _ _ _ _ _ c7 c8 => absurd ⟨c7, c8⟩ c3)))
  · have cc : ¬ (A 82 3 = 0 ∨ A 82 0 = 0) := fun q => c (q.imp (fun q => es.trans q) (fun q => et.trans q))
    have d3 : A 82 3 = A 82 0 := es.symm.trans (c2.trans et)
    refine hK _ _ (mCall_k (fun K hK => w_X9_copy (s := 3) (t := 0) (by decide) (by decide) hk k2 hk' k2' (fun c9 => absurd c9 cc) (fun _ c9 => absurd d3 c9) (fun _ _ c9 => absurd ⟨c3, c4⟩ c9) (fun _ _ i2 j2 m2 f1 f2 f3 f4 f5 _ _ F L hF hL => ?_)))
    have x1 : i2 = i := (nI_eq (by omega) (by omega)).mp (f1.symm.trans e1)
    have x2 : j2 = j := (nI_eq (by omega) (by omega)).mp (f2.symm.trans e2)
    have x3 : m2 = m := (nI_eq (by omega) (by omega)).mp (f3.symm.trans e3)
    subst x1
    subst x2
    subst x3
    have cp := rS1_cp (B' := va_up (va_up (va_up B (66 + 2 * 0) (va_cpy (B (66 + 2 * 3)) (B (66 + 2 * 0)) i2 j2 m2)) 85 F) 84 L) r3 r0 (by omega) rfl hF hL
    refine hK _ _ ⟨rfl, rfl, h.1, h.2.1, h.2.2.1, h.2.2.2.1, ?_, ?_, ?_, ?_⟩
    · first | exact cp | exact rS1_c r0 ⟨rfl, rfl⟩ rfl rfl (fun _ _ => rfl) (fun x hx => hL.2 _ (by omega))
    · first | exact cp | exact rS1_c r1 ⟨rfl, rfl⟩ rfl rfl (fun _ _ => rfl) (fun x hx => hL.2 _ (by omega))
    · first | exact cp | exact rS1_c r2 ⟨rfl, rfl⟩ rfl rfl (fun _ _ => rfl) (fun x hx => hL.2 _ (by omega))
    · first | exact cp | exact rS1_c r3 ⟨rfl, rfl⟩ rfl rfl (fun _ _ => rfl) (fun x hx => hL.2 _ (by omega))
theorem op_copy31 {E : ME} {f g n : Int32} {A : Nat → Nat → Int32} {B : Nat → Nat → Int64} (h : rAll A B) : rOp E nX8_copy nX9_copy [.int (nI 3), .int f, .int (nI 1), .int g, .int n] A B := by
  refine rOp_of (fun K hK => ?_)
  obtain ⟨r0, r1, r2, r3⟩ := h.2.2.2.2
  have es := r3.1
  have et := r1.1
  obtain ⟨k, hk, k1, k2⟩ := r3.2.2.1
  obtain ⟨k', hk', k1', k2'⟩ := r1.2.2.1
  refine w_X8_copy31 hk k1 hk' k1' (fun c => ?_) (fun c c2 => ?_) (fun c c2 c3 => ?_) (fun c c2 i j m e1 e2 e3 e4 e5 c3 c4 => ?_)
  · have cc : A 82 3 = 0 ∨ A 82 1 = 0 := c.imp (fun q => es.symm.trans q) (fun q => et.symm.trans q)
    exact hK _ _ (mCall_k (fun K hK => w_X9_copy (A := cnt1 A 5) (s := 3) (t := 1) (by decide) (by decide) hk k2 hk' k2' (fun _ => hK _ _ (rEnd_cnt h (by decide))) (fun c9 => absurd cc c9) (fun c9 => absurd cc c9) (fun c9 => absurd cc c9)))
  · have cc : ¬ (A 82 3 = 0 ∨ A 82 1 = 0) := fun q => c (q.imp (fun q => es.trans q) (fun q => et.trans q))
    have c3 : ¬ A 82 3 = A 82 1 := fun q => c2 (es.trans (q.trans et.symm))
    exact hK _ _ (mCall_k (fun K hK => w_X9_copy (A := cnt1 A 2) (s := 3) (t := 1) (by decide) (by decide) hk k2 hk' k2' (fun c9 => absurd c9 cc) (fun _ _ => hK _ _ (rEnd_cnt h (by decide))) (fun _ c9 => absurd c9 c3) (fun _ c9 => absurd c9 c3)))
  · have cc : ¬ (A 82 3 = 0 ∨ A 82 1 = 0) := fun q => c (q.imp (fun q => es.trans q) (fun q => et.trans q))
    have d3 : A 82 3 = A 82 1 := es.symm.trans (c2.trans et)
    exact hK _ _ (mCall_k (fun K hK => w_X9_copy (A := cnt1 A 0) (s := 3) (t := 1) (by decide) (by decide) hk k2 hk' k2' (fun c9 => absurd c9 cc) (fun _ c9 => absurd d3 c9) (fun _ _ _ => hK _ _ (rEnd_cnt h (by decide))) (fun _ _ _ _ _ _ _ _ _ _ c7 c8 => absurd ⟨c7, c8⟩ c3)))
  · have cc : ¬ (A 82 3 = 0 ∨ A 82 1 = 0) := fun q => c (q.imp (fun q => es.trans q) (fun q => et.trans q))
    have d3 : A 82 3 = A 82 1 := es.symm.trans (c2.trans et)
    refine hK _ _ (mCall_k (fun K hK => w_X9_copy (s := 3) (t := 1) (by decide) (by decide) hk k2 hk' k2' (fun c9 => absurd c9 cc) (fun _ c9 => absurd d3 c9) (fun _ _ c9 => absurd ⟨c3, c4⟩ c9) (fun _ _ i2 j2 m2 f1 f2 f3 f4 f5 _ _ F L hF hL => ?_)))
    have x1 : i2 = i := (nI_eq (by omega) (by omega)).mp (f1.symm.trans e1)
    have x2 : j2 = j := (nI_eq (by omega) (by omega)).mp (f2.symm.trans e2)
    have x3 : m2 = m := (nI_eq (by omega) (by omega)).mp (f3.symm.trans e3)
    subst x1
    subst x2
    subst x3
    have cp := rS1_cp (B' := va_up (va_up (va_up B (66 + 2 * 1) (va_cpy (B (66 + 2 * 3)) (B (66 + 2 * 1)) i2 j2 m2)) 85 F) 84 L) r3 r1 (by omega) rfl hF hL
    refine hK _ _ ⟨rfl, rfl, h.1, h.2.1, h.2.2.1, h.2.2.2.1, ?_, ?_, ?_, ?_⟩
    · first | exact cp | exact rS1_c r0 ⟨rfl, rfl⟩ rfl rfl (fun _ _ => rfl) (fun x hx => hL.2 _ (by omega))
    · first | exact cp | exact rS1_c r1 ⟨rfl, rfl⟩ rfl rfl (fun _ _ => rfl) (fun x hx => hL.2 _ (by omega))
    · first | exact cp | exact rS1_c r2 ⟨rfl, rfl⟩ rfl rfl (fun _ _ => rfl) (fun x hx => hL.2 _ (by omega))
    · first | exact cp | exact rS1_c r3 ⟨rfl, rfl⟩ rfl rfl (fun _ _ => rfl) (fun x hx => hL.2 _ (by omega))
theorem op_copy32 {E : ME} {f g n : Int32} {A : Nat → Nat → Int32} {B : Nat → Nat → Int64} (h : rAll A B) : rOp E nX8_copy nX9_copy [.int (nI 3), .int f, .int (nI 2), .int g, .int n] A B := by
  refine rOp_of (fun K hK => ?_)
  obtain ⟨r0, r1, r2, r3⟩ := h.2.2.2.2
  have es := r3.1
  have et := r2.1
  obtain ⟨k, hk, k1, k2⟩ := r3.2.2.1
  obtain ⟨k', hk', k1', k2'⟩ := r2.2.2.1
  refine w_X8_copy32 hk k1 hk' k1' (fun c => ?_) (fun c c2 => ?_) (fun c c2 c3 => ?_) (fun c c2 i j m e1 e2 e3 e4 e5 c3 c4 => ?_)
  · have cc : A 82 3 = 0 ∨ A 82 2 = 0 := c.imp (fun q => es.symm.trans q) (fun q => et.symm.trans q)
    exact hK _ _ (mCall_k (fun K hK => w_X9_copy (A := cnt1 A 5) (s := 3) (t := 2) (by decide) (by decide) hk k2 hk' k2' (fun _ => hK _ _ (rEnd_cnt h (by decide))) (fun c9 => absurd cc c9) (fun c9 => absurd cc c9) (fun c9 => absurd cc c9)))
  · have cc : ¬ (A 82 3 = 0 ∨ A 82 2 = 0) := fun q => c (q.imp (fun q => es.trans q) (fun q => et.trans q))
    have c3 : ¬ A 82 3 = A 82 2 := fun q => c2 (es.trans (q.trans et.symm))
    exact hK _ _ (mCall_k (fun K hK => w_X9_copy (A := cnt1 A 2) (s := 3) (t := 2) (by decide) (by decide) hk k2 hk' k2' (fun c9 => absurd c9 cc) (fun _ _ => hK _ _ (rEnd_cnt h (by decide))) (fun _ c9 => absurd c9 c3) (fun _ c9 => absurd c9 c3)))
  · have cc : ¬ (A 82 3 = 0 ∨ A 82 2 = 0) := fun q => c (q.imp (fun q => es.trans q) (fun q => et.trans q))
    have d3 : A 82 3 = A 82 2 := es.symm.trans (c2.trans et)
    exact hK _ _ (mCall_k (fun K hK => w_X9_copy (A := cnt1 A 0) (s := 3) (t := 2) (by decide) (by decide) hk k2 hk' k2' (fun c9 => absurd c9 cc) (fun _ c9 => absurd d3 c9) (fun _ _ _ => hK _ _ (rEnd_cnt h (by decide))) (fun _ _ _ _ _ _ _ _ _ _ c7 c8 => absurd ⟨c7, c8⟩ c3)))
  · have cc : ¬ (A 82 3 = 0 ∨ A 82 2 = 0) := fun q => c (q.imp (fun q => es.trans q) (fun q => et.trans q))
    have d3 : A 82 3 = A 82 2 := es.symm.trans (c2.trans et)
    refine hK _ _ (mCall_k (fun K hK => w_X9_copy (s := 3) (t := 2) (by decide) (by decide) hk k2 hk' k2' (fun c9 => absurd c9 cc) (fun _ c9 => absurd d3 c9) (fun _ _ c9 => absurd ⟨c3, c4⟩ c9) (fun _ _ i2 j2 m2 f1 f2 f3 f4 f5 _ _ F L hF hL => ?_)))
    have x1 : i2 = i := (nI_eq (by omega) (by omega)).mp (f1.symm.trans e1)
    have x2 : j2 = j := (nI_eq (by omega) (by omega)).mp (f2.symm.trans e2)
    have x3 : m2 = m := (nI_eq (by omega) (by omega)).mp (f3.symm.trans e3)
    subst x1
    subst x2
    subst x3
    have cp := rS1_cp (B' := va_up (va_up (va_up B (66 + 2 * 2) (va_cpy (B (66 + 2 * 3)) (B (66 + 2 * 2)) i2 j2 m2)) 85 F) 84 L) r3 r2 (by omega) rfl hF hL
    refine hK _ _ ⟨rfl, rfl, h.1, h.2.1, h.2.2.1, h.2.2.2.1, ?_, ?_, ?_, ?_⟩
    · first | exact cp | exact rS1_c r0 ⟨rfl, rfl⟩ rfl rfl (fun _ _ => rfl) (fun x hx => hL.2 _ (by omega))
    · first | exact cp | exact rS1_c r1 ⟨rfl, rfl⟩ rfl rfl (fun _ _ => rfl) (fun x hx => hL.2 _ (by omega))
    · first | exact cp | exact rS1_c r2 ⟨rfl, rfl⟩ rfl rfl (fun _ _ => rfl) (fun x hx => hL.2 _ (by omega))
    · first | exact cp | exact rS1_c r3 ⟨rfl, rfl⟩ rfl rfl (fun _ _ => rfl) (fun x hx => hL.2 _ (by omega))
theorem op_copy33 {E : ME} {f g n : Int32} {A : Nat → Nat → Int32} {B : Nat → Nat → Int64} (h : rAll A B) : rOp E nX8_copy nX9_copy [.int (nI 3), .int f, .int (nI 3), .int g, .int n] A B := by
  refine rOp_of (fun K hK => ?_)
  obtain ⟨r0, r1, r2, r3⟩ := h.2.2.2.2
  have es := r3.1
  have et := r3.1
  obtain ⟨k, hk, k1, k2⟩ := r3.2.2.1
  obtain ⟨k', hk', k1', k2'⟩ := r3.2.2.1
  refine w_X8_copy33 hk k1 hk' k1' (fun c => ?_) (fun c c2 => ?_) (fun c c2 c3 => ?_) (fun c c2 i j m e1 e2 e3 e4 e5 c3 c4 => ?_)
  · have cc : A 82 3 = 0 ∨ A 82 3 = 0 := c.imp (fun q => es.symm.trans q) (fun q => et.symm.trans q)
    exact hK _ _ (mCall_k (fun K hK => w_X9_copy (A := cnt1 A 5) (s := 3) (t := 3) (by decide) (by decide) hk k2 hk' k2' (fun _ => hK _ _ (rEnd_cnt h (by decide))) (fun c9 => absurd cc c9) (fun c9 => absurd cc c9) (fun c9 => absurd cc c9)))
  · have cc : ¬ (A 82 3 = 0 ∨ A 82 3 = 0) := fun q => c (q.imp (fun q => es.trans q) (fun q => et.trans q))
    have c3 : ¬ A 82 3 = A 82 3 := fun q => c2 (es.trans (q.trans et.symm))
    exact hK _ _ (mCall_k (fun K hK => w_X9_copy (A := cnt1 A 2) (s := 3) (t := 3) (by decide) (by decide) hk k2 hk' k2' (fun c9 => absurd c9 cc) (fun _ _ => hK _ _ (rEnd_cnt h (by decide))) (fun _ c9 => absurd c9 c3) (fun _ c9 => absurd c9 c3)))
  · have cc : ¬ (A 82 3 = 0 ∨ A 82 3 = 0) := fun q => c (q.imp (fun q => es.trans q) (fun q => et.trans q))
    have d3 : A 82 3 = A 82 3 := es.symm.trans (c2.trans et)
    exact hK _ _ (mCall_k (fun K hK => w_X9_copy (A := cnt1 A 0) (s := 3) (t := 3) (by decide) (by decide) hk k2 hk' k2' (fun c9 => absurd c9 cc) (fun _ c9 => absurd d3 c9) (fun _ _ _ => hK _ _ (rEnd_cnt h (by decide))) (fun _ _ _ _ _ _ _ _ _ _ c7 c8 => absurd ⟨c7, c8⟩ c3)))
  · have cc : ¬ (A 82 3 = 0 ∨ A 82 3 = 0) := fun q => c (q.imp (fun q => es.trans q) (fun q => et.trans q))
    have d3 : A 82 3 = A 82 3 := es.symm.trans (c2.trans et)
    refine hK _ _ (mCall_k (fun K hK => w_X9_copy (s := 3) (t := 3) (by decide) (by decide) hk k2 hk' k2' (fun c9 => absurd c9 cc) (fun _ c9 => absurd d3 c9) (fun _ _ c9 => absurd ⟨c3, c4⟩ c9) (fun _ _ i2 j2 m2 f1 f2 f3 f4 f5 _ _ F L hF hL => ?_)))
    have x1 : i2 = i := (nI_eq (by omega) (by omega)).mp (f1.symm.trans e1)
    have x2 : j2 = j := (nI_eq (by omega) (by omega)).mp (f2.symm.trans e2)
    have x3 : m2 = m := (nI_eq (by omega) (by omega)).mp (f3.symm.trans e3)
    subst x1
    subst x2
    subst x3
    have cp := rS1_cp (B' := va_up (va_up (va_up B (66 + 2 * 3) (va_cpy (B (66 + 2 * 3)) (B (66 + 2 * 3)) i2 j2 m2)) 85 F) 84 L) r3 r3 (by omega) rfl hF hL
    refine hK _ _ ⟨rfl, rfl, h.1, h.2.1, h.2.2.1, h.2.2.2.1, ?_, ?_, ?_, ?_⟩
    · first | exact cp | exact rS1_c r0 ⟨rfl, rfl⟩ rfl rfl (fun _ _ => rfl) (fun x hx => hL.2 _ (by omega))
    · first | exact cp | exact rS1_c r1 ⟨rfl, rfl⟩ rfl rfl (fun _ _ => rfl) (fun x hx => hL.2 _ (by omega))
    · first | exact cp | exact rS1_c r2 ⟨rfl, rfl⟩ rfl rfl (fun _ _ => rfl) (fun x hx => hL.2 _ (by omega))
    · first | exact cp | exact rS1_c r3 ⟨rfl, rfl⟩ rfl rfl (fun _ _ => rfl) (fun x hx => hL.2 _ (by omega))
theorem cp_no8 {E : ME} {d : Nat} {v f u g n : Int32} {A : Nat → Nat → Int32} {B : Nat → Nat → Int64} {K : MK} (a0 : ¬ ((0 ≤ v ∧ v ≤ 3) ∧ (0 ≤ u ∧ u ≤ 3))) (hK : K (some (.int (-1000000001))) (SH, cnt1 A 0, B)) : mCall E (d + 2) nX8_copy [.ref 0, .int v, .int f, .int u, .int g, .int n] (SH, A, B) K := by
  refine mCall_sem MX8_copy rfl rfl (Or.inl ⟨rfl, rfl, rfl⟩) rfl (mSem_wp MX8_copy rfl aX8_copy 300 [] (fun cl ax hcl hax => ?_))
  refine hcl _ _ _ _ (w_X8_isSheet (fun c1 c2 => ?_) (fun _ => ?_))
  · refine ⟨fun h9 => absurd h9 (by decide), fun _ => ?_⟩
    refine hcl _ _ _ _ (w_X8_isSheet (fun c3 c4 => absurd ⟨⟨c1, c2⟩, c3, c4⟩ a0) (fun _ => ?_))
    refine ⟨fun h9 => absurd h9 (by decide), fun _ => ?_⟩
    exact hcl _ _ _ _ (w_X8_refuse 0 (by decide) (by decide) hK)
  · refine ⟨fun _ => ?_, fun h9 => absurd h9 (by decide)⟩
    exact hcl _ _ _ _ (w_X8_refuse 0 (by decide) (by decide) hK)
theorem cp_no9 {E : ME} {d : Nat} {v f u g n : Int32} {A : Nat → Nat → Int32} {B : Nat → Nat → Int64} {K : MK} (a0 : ¬ ((0 ≤ v ∧ v ≤ 3) ∧ (0 ≤ u ∧ u ≤ 3))) (hK : K (some (.int (-1000000001))) (SH, cnt2 A 0, B)) : mCall E (d + 2) nX9_copy [.ref 74, .int v, .int f, .int u, .int g, .int n] (SH, A, B) K := by
  refine mCall_sem MX9_copy rfl rfl (Or.inl ⟨rfl, rfl, rfl⟩) rfl (mSem_wp MX9_copy rfl aX9_copy 300 [] (fun cl ax hcl hax => ?_))
  refine hcl _ _ _ _ (w_X9_isSheet (fun c1 c2 => ?_) (fun _ => ?_))
  · refine ⟨fun h9 => absurd h9 (by decide), fun _ => ?_⟩
    refine hcl _ _ _ _ (w_X9_isSheet (fun c3 c4 => absurd ⟨⟨c1, c2⟩, c3, c4⟩ a0) (fun _ => ?_))
    refine ⟨fun h9 => absurd h9 (by decide), fun _ => ?_⟩
    exact hcl _ _ _ _ (w_X9_finding 0 (by decide) (by decide) hK)
  · refine ⟨fun _ => ?_, fun h9 => absurd h9 (by decide)⟩
    exact hcl _ _ _ _ (w_X9_finding 0 (by decide) (by decide) hK)
theorem op_copy {E : ME} {v f u g n : Int32} {A : Nat → Nat → Int32} {B : Nat → Nat → Int64} (h : rAll A B) : rOp E nX8_copy nX9_copy [.int v, .int f, .int u, .int g, .int n] A B := by
  by_cases ha : ¬ ((0 ≤ v ∧ v ≤ 3) ∧ (0 ≤ u ∧ u ≤ 3))
  · refine rOp_of (fun K hK => ?_)
    exact cp_no8 ha (hK _ _ (mCall_k (fun K hK => cp_no9 ha (hK _ _ (rEnd_cnt h (by decide))))))
  have ha := Classical.not_not.mp ha
  obtain ⟨s, hs, rfl⟩ := ix_le 3 ha.1.1 ha.1.2 rfl
  obtain ⟨t, ht, rfl⟩ := ix_le 3 ha.2.1 ha.2.2 rfl
  rcases (show s = 0 ∨ s = 1 ∨ s = 2 ∨ s = 3 by omega) with rfl | rfl | rfl | rfl
  · rcases (show t = 0 ∨ t = 1 ∨ t = 2 ∨ t = 3 by omega) with rfl | rfl | rfl | rfl
    · exact op_copy00 h
    · exact op_copy01 h
    · exact op_copy02 h
    · exact op_copy03 h
  · rcases (show t = 0 ∨ t = 1 ∨ t = 2 ∨ t = 3 by omega) with rfl | rfl | rfl | rfl
    · exact op_copy10 h
    · exact op_copy11 h
    · exact op_copy12 h
    · exact op_copy13 h
  · rcases (show t = 0 ∨ t = 1 ∨ t = 2 ∨ t = 3 by omega) with rfl | rfl | rfl | rfl
    · exact op_copy20 h
    · exact op_copy21 h
    · exact op_copy22 h
    · exact op_copy23 h
  · rcases (show t = 0 ∨ t = 1 ∨ t = 2 ∨ t = 3 by omega) with rfl | rfl | rfl | rfl
    · exact op_copy30 h
    · exact op_copy31 h
    · exact op_copy32 h
    · exact op_copy33 h
