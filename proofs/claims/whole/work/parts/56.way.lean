/-! HOW FAR A PACE LEADS -/
def us (x k : Int32) : Int32 := (x.toUInt32 >>> (k.toUInt32 &&& Int32.toUInt32 31)).toInt32
def bc1 (x : Int32) : Int32 := x - (us x 1 &&& 1431655765)
def bc2 (x : Int32) : Int32 := (x &&& 858993459) + (us x 2 &&& 858993459)
def bc3 (x : Int32) : Int32 := (x + us x 4) &&& 252645135
def bc4 (x : Int32) : Int32 := x + us x 8
def bc5 (x : Int32) : Int32 := x + us x 16
def bcE (x : Int32) : Int32 := bc5 (bc4 (bc3 (bc2 (bc1 x)))) &&& 63
theorem w_bitCount {E : ME} {d : Nat} {x : Int32} {h : MH} {K : MK} (hK : K (some (.int (bcE x))) h) : mCall E d nJ6_bitCount_0f7a4 [.int x] h K := by
  refine mCall_sem MJ6_bitCount_0f7a4 rfl rfl (Or.inl ⟨rfl, rfl, rfl⟩) rfl (mSem_wp MJ6_bitCount_0f7a4 rfl aJ6_bitCount_0f7a4 300 [] (fun cl ax hcl hax => ?_))
  exact hK
def wbf (w : Int32) (r : Nat) : Int32 := (w >>> (nI r &&& 31)) &&& 1
set_option maxRecDepth 100000 in
theorem bc_128 : ∀ n, n < 128 → wbf (nI n) 0 + wbf (nI n) 1 + wbf (nI n) 2 + wbf (nI n) 3 + wbf (nI n) 4 + wbf (nI n) 5 + wbf (nI n) 6 = bcE (nI n) := by decide +kernel
theorem wb_n {w : Int32} {m : Nat} (hm : m < 2 ^ 31) : wb w (nI m) = wbf w (m % 7) := by
  unfold wb wbf
  rw [show nI m - nI m / 7 * 7 = nI (m % 7) from pk_rem (d := 7) hm (by decide) (by decide)]
def wn (w y : Int32) (n : Nat) : Int32 := sa (fun j => wb w (y + nI j)) 0 n
theorem fl_wb (w p y : Int32) : fl w p y = p + wb w y * (p / 2) := by
  unfold fl
  rcases wb01 w y with q | q
  · rw [if_neg (by rw [q]; decide), q]; grind
  · rw [if_pos q, q]; grind
theorem sa_fl (w p y : Int32) : ∀ n, sa (fun j => fl w p (y + nI j)) 0 n = nI n * p + wn w y n * (p / 2)
  | 0 => by
    show (0 : Int32) = 0 * p + 0 * (p / 2)
    grind
  | n + 1 => by
    have ih := sa_fl w p y n
    have e : wn w y (n + 1) = wn w y n + wb w (y + nI n) := rfl
    have e2 : sa (fun j => fl w p (y + nI j)) 0 (n + 1) = sa (fun j => fl w p (y + nI j)) 0 n + fl w p (y + nI n) := rfl
    rw [e, e2, ih, fl_wb, ← nI_1]
    generalize wn w y n = a
    generalize wb w (y + nI n) = b
    generalize nI n = c
    generalize p / 2 = q
    grind
theorem rot7 (w : Int32) (n : Nat) : wbf w (n % 7) + wbf w ((n + 1) % 7) + wbf w ((n + 2) % 7) + wbf w ((n + 3) % 7) + wbf w ((n + 4) % 7) + wbf w ((n + 5) % 7) + wbf w ((n + 6) % 7) = wbf w 0 + wbf w 1 + wbf w 2 + wbf w 3 + wbf w 4 + wbf w 5 + wbf w 6 := by
  have h : n % 7 = 0 ∨ n % 7 = 1 ∨ n % 7 = 2 ∨ n % 7 = 3 ∨ n % 7 = 4 ∨ n % 7 = 5 ∨ n % 7 = 6 := by omega
  rcases h with h | h | h | h | h | h | h
  · rw [h, show (n + 1) % 7 = 1 by omega, show (n + 2) % 7 = 2 by omega, show (n + 3) % 7 = 3 by omega, show (n + 4) % 7 = 4 by omega, show (n + 5) % 7 = 5 by omega, show (n + 6) % 7 = 6 by omega]
  · rw [h, show (n + 1) % 7 = 2 by omega, show (n + 2) % 7 = 3 by omega, show (n + 3) % 7 = 4 by omega, show (n + 4) % 7 = 5 by omega, show (n + 5) % 7 = 6 by omega, show (n + 6) % 7 = 0 by omega]
    grind
  · rw [h, show (n + 1) % 7 = 3 by omega, show (n + 2) % 7 = 4 by omega, show (n + 3) % 7 = 5 by omega, show (n + 4) % 7 = 6 by omega, show (n + 5) % 7 = 0 by omega, show (n + 6) % 7 = 1 by omega]
    grind
  · rw [h, show (n + 1) % 7 = 4 by omega, show (n + 2) % 7 = 5 by omega, show (n + 3) % 7 = 6 by omega, show (n + 4) % 7 = 0 by omega, show (n + 5) % 7 = 1 by omega, show (n + 6) % 7 = 2 by omega]
    grind
  · rw [h, show (n + 1) % 7 = 5 by omega, show (n + 2) % 7 = 6 by omega, show (n + 3) % 7 = 0 by omega, show (n + 4) % 7 = 1 by omega, show (n + 5) % 7 = 2 by omega, show (n + 6) % 7 = 3 by omega]
    grind
  · rw [h, show (n + 1) % 7 = 6 by omega, show (n + 2) % 7 = 0 by omega, show (n + 3) % 7 = 1 by omega, show (n + 4) % 7 = 2 by omega, show (n + 5) % 7 = 3 by omega, show (n + 6) % 7 = 4 by omega]
    grind
  · rw [h, show (n + 1) % 7 = 0 by omega, show (n + 2) % 7 = 1 by omega, show (n + 3) % 7 = 2 by omega, show (n + 4) % 7 = 3 by omega, show (n + 5) % 7 = 4 by omega, show (n + 6) % 7 = 5 by omega]
    grind
theorem wn_7 {w : Int32} {a : Nat} (ha : a ≤ 2000) (w0 : 0 ≤ w) (w1 : w ≤ 127) {n : Nat} (hn : n ≤ 2000) : wn w (nI a) (n + 7) = wn w (nI a) n + bcE w := by
  have s : ∀ m, wn w (nI a) (m + 1) = wn w (nI a) m + wb w (nI a + nI m) := fun _ => rfl
  have b : ∀ m, m ≤ 2007 → wb w (nI a + nI m) = wbf w ((a + m) % 7) := fun m hm => by
    rw [nI_add]
    exact wb_n (by omega)
  obtain ⟨v, hv, rfl⟩ := ix_le 127 w0 w1 rfl
  rw [s (n + 6), s (n + 5), s (n + 4), s (n + 3), s (n + 2), s (n + 1), s n, b n (by omega), b (n + 1) (by omega), b (n + 2) (by omega), b (n + 3) (by omega), b (n + 4) (by omega), b (n + 5) (by omega), b (n + 6) (by omega), ← bc_128 v (by omega), ← rot7 (nI v) (a + n)]
  simp only [Nat.add_assoc]
  generalize wn (nI v) (nI a) n = z
  generalize wbf (nI v) ((a + n) % 7) = x0
  generalize wbf (nI v) ((a + (n + 1)) % 7) = x1
  generalize wbf (nI v) ((a + (n + 2)) % 7) = x2
  generalize wbf (nI v) ((a + (n + 3)) % 7) = x3
  generalize wbf (nI v) ((a + (n + 4)) % 7) = x4
  generalize wbf (nI v) ((a + (n + 5)) % 7) = x5
  generalize wbf (nI v) ((a + (n + 6)) % 7) = x6
  grind
theorem wn_d {w : Int32} {a : Nat} (ha : a ≤ 2000) (w0 : 0 ≤ w) (w1 : w ≤ 127) : ∀ q r, r < 7 → 7 * q + r ≤ 2000 → wn w (nI a) (7 * q + r) = nI q * bcE w + wn w (nI a) r
  | 0, r, hr, h => by
    rw [show 7 * 0 + r = r by omega, show nI 0 = 0 from rfl]
    generalize bcE w = x
    grind
  | q + 1, r, hr, h => by
    rw [show 7 * (q + 1) + r = 7 * q + r + 7 by omega, wn_7 ha w0 w1 (by omega), wn_d ha w0 w1 q r hr (by omega), ← nI_1]
    generalize bcE w = x
    generalize nI q = y
    generalize wn w (nI a) r = z
    grind
theorem way_eq {w p : Int32} {a n : Nat} (ha : a ≤ 2000) (w0 : 0 ≤ w) (w1 : w ≤ 127) (hn : n ≤ 2000) : nI n * p + (nI (n / 7) * bcE w + wn w (nI a) (n % 7)) * (p / 2) = sa (fun j => fl w p (nI a + nI j)) 0 n := by
  rw [sa_fl, ← wn_d ha w0 w1 (n / 7) (n % 7) (by omega) (by omega), show 7 * (n / 7) + n % 7 = n by omega]
theorem lp_wayAt {E : ME} {d : Nat} {A A0 : Nat → Nat → Int32} {B : Nat → Nat → Int64} {K : MK} {p y z : Int32} {n : Nat} (hn : n ≤ 2000) (hK : K (some (.int (nI n * p + (z + wn (A 2 1) y (n % 7)) * (p / 2)))) (SH, A, B)) : ∀ i, i ≤ n % 7 → mSem E (d + 1) nX2_wayAt (SH, A0, B) 0 0 K 17 [some (.ref 2), some (.int p), some (.int y), some (.int (nI n)), some (.int (z + wn (A 2 1) y i)), some (.int (nI i))] [] (SH, A, B) := by
  refine mSem_loop (h0 := (SH, A0, B)) MX2_wayAt rfl aX2_wayAt 300 [17] (fun i => [some (.ref 2), some (.int p), some (.int y), some (.int (nI n)), some (.int (z + wn (A 2 1) y i)), some (.int (nI i))]) (fun i => (SH, A, B)) (fun i => i ≤ n % 7) (fun i => n % 7 - i) ?_
  intro i hi cl ax hcl hax hlp
  have er : nI n - nI n / 7 * 7 = nI (n % 7) := pk_rem (d := 7) (by omega) (by decide) (by decide)
  refine ⟨by decide, ?_⟩
  refine ⟨fun (c0 : nI n - nI n / 7 * 7 ≤ nI i) => ?_, fun (c0 : ¬ nI n - nI n / 7 * 7 ≤ nI i) => ?_⟩
  · rw [er, nI_leI (by omega) (by omega)] at c0
    have : i = n % 7 := by omega
    subst this
    refine ⟨by decide, ?_⟩
    exact hK
  · rw [er, nI_leI (by omega) (by omega)] at c0
    have this : ax 17 [some (.ref 2), some (.int p), some (.int y), some (.int (nI n)), some (.int (z + wn (A 2 1) y (i + 1))), some (.int (nI (i + 1)))] [] (SH, A, B) := hlp (i + 1) (by omega) (by omega)
    rw [← nI_1, show wn (A 2 1) y (i + 1) = wn (A 2 1) y i + wb (A 2 1) (y + nI i) from rfl] at this
    refine hcl _ _ _ _ (w_isWarm (fun c => ?_) (fun c => ?_))
    · refine ⟨fun h9 => absurd h9 (by decide), fun _ => ?_⟩
      rw [c, show z + (wn (A 2 1) y i + 1) = z + wn (A 2 1) y i + 1 by grind] at this
      exact this
    · refine ⟨fun _ => ?_, fun h9 => absurd h9 (by decide)⟩
      rw [(wb01 (A 2 1) (y + nI i)).resolve_right c, show z + (wn (A 2 1) y i + 0) = z + wn (A 2 1) y i by grind] at this
      exact this
theorem w_wayAt {E : ME} {d : Nat} {A : Nat → Nat → Int32} {B : Nat → Nat → Int64} {K : MK} {p y m : Int32} (n : Nat) (em : m = nI n) (hn : n ≤ 60) (y0 : 0 ≤ y) (y1 : y ≤ 999) (w0 : 0 ≤ A 2 1) (w1 : A 2 1 ≤ 127) (hK : K (some (.int (sa (fun j => fl (A 2 1) p (y + nI j)) 0 n))) (SH, A, B)) : mCall E (d + 1) nX2_wayAt [.ref 2, .int p, .int y, .int m] (SH, A, B) K := by
  subst em
  obtain ⟨a, ha, rfl⟩ := ix_le 999 y0 y1 rfl
  rw [← way_eq (by omega) w0 w1 (by omega)] at hK
  refine mCall_sem MX2_wayAt rfl rfl (Or.inl ⟨rfl, rfl, rfl⟩) rfl (mSem_wp MX2_wayAt rfl aX2_wayAt 300 [17] (fun cl ax hcl hax => ?_))
  refine ⟨by decide, ?_⟩
  refine hcl _ _ _ _ (w_bitCount ?_)
  have ed : nI n / 7 = nI (n / 7) := pk_div (d := 7) (by omega) (by decide) (by decide)
  have this := lp_wayAt (E := E) (d := d) (A := A) (A0 := A) (B := B) (K := K) (p := p) (y := nI a) (z := nI (n / 7) * bcE (A 2 1)) (n := n) (by omega) hK 0 (by omega)
  rw [show nI (n / 7) * bcE (A 2 1) + wn (A 2 1) (nI a) 0 = nI n / 7 * bcE (A 2 1) by rw [ed]; show _ + (0 : Int32) = _; generalize nI (n / 7) * bcE (A 2 1) = x; grind] at this
  exact hax _ _ _ _ this
theorem sb_sa (s : Nat → Int32) (e : Int32) : ∀ n, sb s e n = e - sa s 0 n
  | 0 => by show e = e - 0; grind
  | n + 1 => by
    have ih := sb_sa s e n
    show sb s e n - s n = e - (sa s 0 n + s n)
    rw [ih]
    grind
