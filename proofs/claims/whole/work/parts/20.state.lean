/-! THE STATE: the shape of the heap behind the two constructors, and what the two objects have in common -/
def SH : MS := [(13, 8, [some 1, some 18, some 35, some 41, some 45, some 64, some 73, none]),
  (12, 4, [some 2, some 4, some 10, some 13]),
  (7, 4, [none, none, none, some 3]),
  (0, 9, []),
  (6, 6, [none, some 5, some 6, some 7, some 8, some 9]),
  (0, 12, []),
  (0, 12, []),
  (0, 12, []),
  (0, 12, []),
  (1, 12, []),
  (5, 3, [none, some 11, some 12]),
  (0, 10, []),
  (0, 10, []),
  (9, 5, [none, some 14, some 15, some 16, some 17]),
  (0, 10, []),
  (0, 10, []),
  (0, 10, []),
  (0, 10, []),
  (12, 4, [some 19, some 21, some 27, some 30]),
  (7, 4, [none, none, none, some 20]),
  (0, 9, []),
  (6, 6, [none, some 22, some 23, some 24, some 25, some 26]),
  (0, 12, []),
  (0, 12, []),
  (0, 12, []),
  (0, 12, []),
  (1, 12, []),
  (5, 3, [none, some 28, some 29]),
  (0, 10, []),
  (0, 10, []),
  (9, 5, [none, some 31, some 32, some 33, some 34]),
  (0, 10, []),
  (0, 10, []),
  (0, 10, []),
  (0, 10, []),
  (6, 6, [none, some 36, some 37, some 38, some 39, some 40]),
  (0, 12, []),
  (0, 12, []),
  (0, 12, []),
  (0, 12, []),
  (1, 12, []),
  (10, 3, [some 42, some 43, some 44]),
  (0, 9, []),
  (0, 9, []),
  (1, 9, []),
  (11, 7, [none, some 46, some 63, none, none, none, none]),
  (12, 4, [some 47, some 49, some 55, some 58]),
  (7, 4, [none, none, none, some 48]),
  (0, 9, []),
  (6, 6, [none, some 50, some 51, some 52, some 53, some 54]),
  (0, 12, []),
  (0, 12, []),
  (0, 12, []),
  (0, 12, []),
  (1, 12, []),
  (5, 3, [none, some 56, some 57]),
  (0, 10, []),
  (0, 10, []),
  (9, 5, [none, some 59, some 60, some 61, some 62]),
  (0, 10, []),
  (0, 10, []),
  (0, 10, []),
  (0, 10, []),
  (0, 120, []),
  (3, 4, [some 65, some 67, some 69, some 71]),
  (8, 3, [none, none, some 66]),
  (2, 40, []),
  (8, 3, [none, none, some 68]),
  (2, 40, []),
  (8, 3, [none, none, some 70]),
  (2, 40, []),
  (8, 3, [none, none, some 72]),
  (2, 40, []),
  (0, 7, []),
  (14, 23, [some 75, some 76, some 77, none, some 78, some 79, none, none, none, none, none, none, some 80, some 81, none, none, none, none, none, some 82, some 83, some 84, some 85]),
  (0, 135, []),
  (0, 135, []),
  (0, 135, []),
  (0, 8, []),
  (0, 120, []),
  (4, 6, [some 1025, some 1026, some 1027, some 1028, some 1029, some 1030]),
  (0, 600, []),
  (0, 4, []),
  (0, 4, []),
  (2, 160, []),
  (2, 40, [])]
theorem mCall_mono {E : ME} {d y : Nat} {as : List Value} {h : MH} {K K' : MK} (hk : ∀ r h', K r h' → K' r h') (hc : mCall E d y as h K) : mCall E d y as h K' := by
  intro l D c5 adr vF base M hM
  refine MetFree.mono (hc l D c5 adr vF base M hM) (fun _ _ h => h) (fun _ _ _ _ _ h => h) (fun a s o t _ hq => ?_)
  obtain ⟨⟨⟨r, h', q1, q2, q3⟩, q4⟩, q5⟩ := hq
  exact ⟨⟨⟨r, h', q1, hk r h' q2, q3⟩, q4⟩, q5⟩
def rIce (A : Nat → Nat → Int32) (i p n : Nat) : Prop := (A i 0 = A n 0 ∧ A i 1 = A n 2 ∧ A i 2 = A n 1) ∧ (∀ j, j < 9 → A p j = A n (6 + j)) ∧ (100 ≤ A n 0 ∧ A n 0 ≤ 9999) ∧ (0 ≤ A n 1 ∧ A n 1 ≤ 999) ∧ (0 ≤ A n 2 ∧ A n 2 ≤ 127) ∧ ∀ j, j < 9 → 0 ≤ A n (6 + j) ∧ A n (6 + j) ≤ 60
def rHou (A : Nat → Nat → Int32) (h a b c d g n : Nat) : Prop := ∃ k, k ≤ 12 ∧ A h 0 = nI k ∧ A n 3 = nI k ∧ ∀ j, j < k → (A a j = A n (15 + 5 * j) ∧ A b j = A n (16 + 5 * j) ∧ A c j = A n (17 + 5 * j) ∧ A d j = A n (18 + 5 * j) ∧ A g j = A n (19 + 5 * j)) ∧ (0 ≤ A n (15 + 5 * j) ∧ A n (15 + 5 * j) ≤ 5) ∧ (0 ≤ A n (16 + 5 * j) ∧ A n (16 + 5 * j) ≤ 8) ∧ (0 ≤ A n (17 + 5 * j) ∧ A n (17 + 5 * j) ≤ 9999) ∧ (0 ≤ A n (18 + 5 * j) ∧ A n (18 + 5 * j) ≤ 99) ∧ ((A n (19 + 5 * j) = 0 ∧ A n (17 + 5 * j) < A n 0) ∨ A n (19 + 5 * j) = 1)
def rDee (A : Nat → Nat → Int32) (h a b n : Nat) : Prop := ∃ k, k ≤ 10 ∧ A h 0 = nI k ∧ A n 4 = nI k ∧ ∀ j, j < k → (A a j = A n (75 + 2 * j) ∧ A b j = A n (76 + 2 * j)) ∧ 0 ≤ A n (75 + 2 * j) ∧ A n (75 + 2 * j) ≤ 8
def rSta (A : Nat → Nat → Int32) (h a b c d n : Nat) : Prop := ∃ k, k ≤ 10 ∧ A h 0 = nI k ∧ A n 5 = nI k ∧ ∀ j, j < k → (A a j = A n (95 + 4 * j) ∧ A b j = A n (96 + 4 * j) ∧ A c j = A n (97 + 4 * j) ∧ A d j = A n (98 + 4 * j)) ∧ (0 ≤ A n (96 + 4 * j) ∧ A n (96 + 4 * j) ≤ 999) ∧ (1 ≤ A n (97 + 4 * j) ∧ A n (97 + 4 * j) ≤ 60)
/-- the town that is, and the town that is kept -/
def rNow (A : Nat → Nat → Int32) : Prop := rIce A 2 3 75 ∧ rHou A 4 5 6 7 8 9 75 ∧ rDee A 10 11 12 75 ∧ rSta A 13 14 15 16 17 75
def rOld (A : Nat → Nat → Int32) : Prop := rIce A 19 20 76 ∧ rHou A 21 22 23 24 25 26 76 ∧ rDee A 27 28 29 76 ∧ rSta A 30 31 32 33 34 76
def rKept (A : Nat → Nat → Int32) : Prop := A 0 7 = A 74 3 ∧ ((A 0 7 = 0) ∨ (A 0 7 = 1 ∧ rOld A))
def rFnd (A : Nat → Nat → Int32) : Prop := (∀ j, j < 7 → A 73 j = A 78 (j + 1)) ∧ A 78 0 = A 73 0 + A 73 1 + A 73 2 + A 73 3 + A 73 4 + A 73 5 + A 73 6
def rTap (A : Nat → Nat → Int32) : Prop := ∃ k, k ≤ 120 ∧ A 45 0 = nI k ∧ A 74 6 = nI k ∧ ∀ j, j < k → A 63 j = A 79 j ∧ 0 ≤ A 79 j ∧ A 79 j ≤ 255
def rS1 (A : Nat → Nat → Int32) (B : Nat → Nat → Int64) (a b i o : Nat) : Prop := A a 0 = A 82 i ∧ (A 82 i = 0 ∨ A 82 i = 8 ∨ A 82 i = 16 ∨ A 82 i = 64) ∧ (∃ k, k ≤ 40 ∧ A a 1 = nI k ∧ A 83 i = nI k) ∧ ∀ j, j < 40 → B b j = B 84 (o + j)
def rShe (A : Nat → Nat → Int32) (B : Nat → Nat → Int64) : Prop := rS1 A B 65 66 0 0 ∧ rS1 A B 67 68 1 40 ∧ rS1 A B 69 70 2 80 ∧ rS1 A B 71 72 3 120
def rAll (A : Nat → Nat → Int32) (B : Nat → Nat → Int64) : Prop := rNow A ∧ rKept A ∧ rFnd A ∧ rTap A ∧ rShe A B
/-- what an operation of both must do -/
def rEnd (r1 : Option Value) : MK := fun r2 h => r1 = r2 ∧ h.1 = SH ∧ rAll h.2.1 h.2.2
def rOp (E : ME) (x m : Nat) (as : List Value) (A : Nat → Nat → Int32) (B : Nat → Nat → Int64) : Prop := mCall E 12 x (.ref 0 :: as) (SH, A, B) (fun r1 h1 => (∃ v : Int32, r1 = some (.int v)) ∧ h1.1 = SH ∧ mCall E 12 m (.ref 74 :: as) h1 (rEnd r1))
/-- the same, where the answer is a long -/
def rOpL (E : ME) (x m : Nat) (as : List Value) (A : Nat → Nat → Int32) (B : Nat → Nat → Int64) : Prop := mCall E 12 x (.ref 0 :: as) (SH, A, B) (fun r1 h1 => (∃ v : Int64, r1 = some (.long v)) ∧ h1.1 = SH ∧ mCall E 12 m (.ref 74 :: as) h1 (rEnd r1))
