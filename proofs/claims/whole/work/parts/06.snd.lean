/-! THE MINI MACHINE AND THE MACHINE, 2: each step of the mini machine is a step of the machine -/
theorem m1i_inv {S : List Value} {f : Int32 → List Value → Prop} (h : m1i S f) : ∃ x S', S = .int x :: S' ∧ f x S' := by
  unfold m1i at h
  split at h
  · exact ⟨_, _, rfl, h⟩
  · exact h.elim
theorem m2i_inv {S : List Value} {f : Int32 → Int32 → List Value → Prop} (h : m2i S f) : ∃ x y S', S = .int y :: .int x :: S' ∧ f x y S' := by
  unfold m2i at h
  split at h
  · exact ⟨_, _, _, rfl, h⟩
  · exact h.elim
theorem m1l_inv {S : List Value} {f : Int64 → List Value → Prop} (h : m1l S f) : ∃ x S', S = .long x :: S' ∧ f x S' := by
  unfold m1l at h
  split at h
  · exact ⟨_, _, rfl, h⟩
  · exact h.elim
theorem m2l_inv {S : List Value} {f : Int64 → Int64 → List Value → Prop} (h : m2l S f) : ∃ x y S', S = .long y :: .long x :: S' ∧ f x y S' := by
  unfold m2l at h
  split at h
  · exact ⟨_, _, _, rfl, h⟩
  · exact h.elim
theorem mil_inv {S : List Value} {f : Int64 → Int32 → List Value → Prop} (h : mil S f) : ∃ x y S', S = .int y :: .long x :: S' ∧ f x y S' := by
  unfold mil at h
  split at h
  · exact ⟨_, _, _, rfl, h⟩
  · exact h.elim
theorem m1a_inv {S : List Value} {f : Nat → List Value → Prop} (h : m1a S f) : ∃ a S', S = .ref a :: S' ∧ f a S' := by
  unfold m1a at h
  split at h
  · exact ⟨_, _, rfl, h⟩
  · exact h.elim
theorem mia_inv {S : List Value} {f : Nat → Int32 → List Value → Prop} (h : mia S f) : ∃ a i S', S = .int i :: .ref a :: S' ∧ f a i S' := by
  unfold mia at h
  split at h
  · exact ⟨_, _, _, rfl, h⟩
  · exact h.elim
theorem mlg_inv {L : ML} {k : Nat} {f : Value → Prop} (h : mlg L k f) : ∃ v, L[k]? = some (some v) ∧ f v := by
  unfold mlg at h
  split at h
  · exact ⟨_, by assumption, h⟩
  · exact h.elim
theorem mvi_inv {v : Value} {f : Int32 → Prop} (h : mvi v f) : ∃ x, v = .int x ∧ f x := by
  unfold mvi at h
  split at h
  · exact ⟨_, rfl, h⟩
  · exact h.elim
theorem mvl_inv {v : Value} {f : Int64 → Prop} (h : mvl v f) : ∃ x, v = .long x ∧ f x := by
  unfold mvl at h
  split at h
  · exact ⟨_, rfl, h⟩
  · exact h.elim
theorem mva_inv {v : Value} {f : Nat → Prop} (h : mva v f) : ∃ x, v = .ref x ∧ f x := by
  unfold mva at h
  split at h
  · exact ⟨_, rfl, h⟩
  · exact h.elim
theorem mif_inv {b : Bool} {P : Prop} (h : mif b P) : b = true ∧ P := by
  cases b
  · exact h.elim
  · exact ⟨rfl, h⟩
theorem ms1_inv {L : ML} {i : Nat} {v : Value} {f : ML → Prop} (h : ms1 L i v f) : mfit L i = true ∧ i < L.length ∧ f (L.set i (some v)) := by
  unfold ms1 at h
  split at h
  · rename_i e
    rw [Bool.and_eq_true] at e
    exact ⟨e.1, Nat.le_of_ble_eq_true e.2, h⟩
  · exact h.elim
theorem ms2_inv {L : ML} {i : Nat} {v : Value} {f : ML → Prop} (h : ms2 L i v f) : mfit L i = true ∧ i + 1 < L.length ∧ f ((L.set i (some v)).set (i + 1) none) := by
  unfold ms2 at h
  split at h
  · rename_i e
    rw [Bool.and_eq_true] at e
    exact ⟨e.1, Nat.le_of_ble_eq_true e.2, h⟩
  · exact h.elim
theorem mpops_inv : ∀ (n : Nat) (S acc : List Value) (f : List Value → List Value → Prop), mpops n S acc f → ∃ as S', S = as.reverse ++ S' ∧ as.length = n ∧ f (as ++ acc) S'
  | 0, S, acc, f, h => ⟨[], S, rfl, rfl, h⟩
  | n + 1, [], acc, f, h => h.elim
  | n + 1, v :: S, acc, f, h => by
    obtain ⟨as, S', h1, h2, h3⟩ := mpops_inv n S (v :: acc) f h
    exact ⟨as ++ [v], S', by simp [h1], by simp [h2], by simpa using h3⟩
theorem mcell_inv {h : MH} {a kd : Nat} {f : Nat → List (Option Nat) → Prop} (hc : mcell h a kd f) : ∃ n rs, h.1[a]? = some (kd, n, rs) ∧ f n rs := by
  unfold mcell at hc
  split at hc
  · rename_i q hq
    split at hc
    · rename_i e
      have e := Nat.eq_of_beq_eq_true e
      exact ⟨q.2.1, q.2.2, by rw [hq, ← e], hc⟩
    · exact hc.elim
  · exact hc.elim
theorem mref_inv {r : Option Nat} {f : Nat → Prop} (h : mref r f) : ∃ x, r = some x ∧ f x := by
  unfold mref at h
  split at h
  · exact ⟨_, rfl, h⟩
  · exact h.elim
theorem mend_inv {S : List Value} {P : Prop} (h : mend S P) : S = [] ∧ P := by
  unfold mend at h
  split at h
  · exact ⟨rfl, h⟩
  · exact h.elim
theorem bnd {a b : Bool} (h : (a && b) = true) : a = true ∧ b = true := by simpa using h
/-- what holds all along a method's body -/
def mCtx (E : ME) (D : va_G) (c5 : Nat → ClassId) (adr : Nat → Nat) (vF : Value) (base d : Nat) (M : MM) (R : Room) (p : Program) (s : State) (m : MethodId) (args : Array Value) (meth : Method) (c : Code) : Prop :=
  (p.tables.exec = Jvm.exec ∧ c.code = M.2.1 ∧ c.maxLocals = M.2.2.1 ∧ s.vm.findClass M.1.cls = some m.cls ∧ ∀ w ∈ mG, w.before args s = true) ∧ va_K D mCl (mTys c5) s ∧ meth.name = M.1.name ∧ mSf E adr vF (fun q => base ≤ q) s s.heap ∧ base ≤ s.heap.size ∧ d ≤ R.frames ∧ 36 * d ≤ R.locals ∧ ∀ j, j ≤ 999 → adr j = base + j
def mInv (D : va_G) (c5 : Nat → ClassId) (adr : Nat → Nat) (vF : Value) (base : Nat) (h0 : MH) (R : Room) (nL : Nat) (s : State) (ls : Array Slot) (H : Heap) (locs : List Loc) (cells slots : Nat) (L : ML) (h : MH) : Prop :=
  mRl adr vF ls nL L ∧ mRel D c5 adr base h H ∧ va_S (fun q => base ≤ q) s.heap H locs ∧ h0.1.length + cells = h.1.length ∧ msz h0.1 + slots = msz h.1 ∧ cells ≤ R.cells ∧ slots ≤ R.slots ∧ s.heap.size = base + h0.1.length
theorem assignable_same (vm : Vm) (c : ClassId) : vm.assignable c c = true := by
  show vm.assignableAux (255 + 1) c c = true
  rw [Vm.assignableAux]
  simp only [beq_self_eq_true, Bool.true_or]
theorem msz_set : ∀ (s : MS) (a : Nat) (q q' : Nat × Nat × List (Option Nat)), s[a]? = some q → q'.2.1 = q.2.1 → msz (s.set a q') = msz s
  | [], a, q, q', h, _ => by simp at h
  | x :: s, 0, q, q', h, e => by
    simp at h
    subst h
    simp [msz, e]
  | x :: s, a + 1, q, q', h, e => by
    have := msz_set s a q q' (by simpa using h) e
    simp [msz, this]
theorem msz_app : ∀ (s : MS) (q : Nat × Nat × List (Option Nat)), msz (s ++ [q]) = msz s + q.2.1
  | [], q => by simp [msz]
  | x :: s, q => by
    have := msz_app s q
    simp only [List.cons_append, msz, this]
    omega
