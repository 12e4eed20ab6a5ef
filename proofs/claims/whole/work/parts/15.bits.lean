/-! ===== BITS: a set of cards is an int ===== -/
def ub (x : Int32) : Nat := x.toBitVec.toNat
def bt (x : Int32) (i : Nat) : Bool := (ub x).testBit i
theorem ub_lt (x : Int32) : ub x < 4294967296 := x.toBitVec.isLt
theorem ub_inj {x y : Int32} (h : ub x = ub y) : x = y := Int32.toBitVec_inj.mp (BitVec.toNat_inj.mp h)
theorem ub_nI {n : Nat} (h : n < 4294967296) : ub (nI n) = n := pk_tn h
theorem ub_and (x y : Int32) : ub (x &&& y) = ub x &&& ub y := by
  unfold ub
  rw [Int32.toBitVec_and, BitVec.toNat_and]
theorem ub_or (x y : Int32) : ub (x ||| y) = ub x ||| ub y := by
  unfold ub
  rw [Int32.toBitVec_or, BitVec.toNat_or]
theorem ub_add (x y : Int32) : ub (x + y) = (ub x + ub y) % 4294967296 := by
  unfold ub
  rw [Int32.toBitVec_add, BitVec.toNat_add]
theorem ub_sub (x y : Int32) : ub (x - y) = (4294967296 - ub y + ub x) % 4294967296 := by
  unfold ub
  rw [Int32.toBitVec_sub, BitVec.toNat_sub]
theorem ub_neg (x : Int32) : ub (-x) = (4294967296 - ub x) % 4294967296 := by
  unfold ub
  rw [Int32.toBitVec_neg, BitVec.toNat_neg]
theorem bt_ext {x y : Int32} (h : ∀ i, i < 32 → bt x i = bt y i) : x = y := by
  refine ub_inj (Nat.eq_of_testBit_eq fun i => ?_)
  by_cases hi : i < 32
  · exact h i hi
  · rw [Nat.testBit_lt_two_pow (Nat.lt_of_lt_of_le (ub_lt x) (by rw [show 4294967296 = 2 ^ 32 from rfl]; exact Nat.pow_le_pow_right (by decide) (by omega))), Nat.testBit_lt_two_pow (Nat.lt_of_lt_of_le (ub_lt y) (by rw [show 4294967296 = 2 ^ 32 from rfl]; exact Nat.pow_le_pow_right (by decide) (by omega)))]
theorem bt_and (x y : Int32) (i : Nat) : bt (x &&& y) i = (bt x i && bt y i) := by
  unfold bt
  rw [ub_and, Nat.testBit_and]
theorem bt_or (x y : Int32) (i : Nat) : bt (x ||| y) i = (bt x i || bt y i) := by
  unfold bt
  rw [ub_or, Nat.testBit_or]
theorem bt_big {x : Int32} {i : Nat} (h : 32 ≤ i) : bt x i = false :=
  Nat.testBit_lt_two_pow (Nat.lt_of_lt_of_le (ub_lt x) (by rw [show 4294967296 = 2 ^ 32 from rfl]; exact Nat.pow_le_pow_right (by decide) h))
theorem nb_split {i a b c d : Nat} (hb : b < 2 ^ i) (hd : d < 2 ^ i) : (2 ^ i * a + b) &&& (2 ^ i * c + d) = 2 ^ i * (a &&& c) + (b &&& d) := by
  refine Nat.eq_of_testBit_eq fun j => ?_
  have hbd : b &&& d < 2 ^ i := Nat.and_lt_two_pow b hd
  rw [Nat.testBit_and, Nat.testBit_two_pow_mul_add a hb, Nat.testBit_two_pow_mul_add c hd, Nat.testBit_two_pow_mul_add _ hbd]
  split
  · rw [Nat.testBit_and]
  · rw [Nat.testBit_and]
theorem nb_8 {a b c d : Nat} (hb : b < 256) (hd : d < 256) : (256 * a + b) &&& (256 * c + d) = 256 * (a &&& c) + (b &&& d) := nb_split (i := 8) hb hd
/-- how many bits below n -/
def ctb (X : Nat) : Nat → Nat
  | 0 => 0
  | n + 1 => ctb X n + (if X.testBit n then 1 else 0)
theorem ctb_low {a b i : Nat} (hb : b < 2 ^ i) : ∀ n, n ≤ i → ctb (2 ^ i * a + b) n = ctb b n
  | 0, _ => rfl
  | n + 1, h => by
    have e : (2 ^ i * a + b).testBit n = b.testBit n := by rw [Nat.testBit_two_pow_mul_add a hb, if_pos (show n < i by omega)]
    rw [ctb, ctb, ctb_low hb n (by omega), e]
theorem ctb_high {a b i : Nat} (hb : b < 2 ^ i) : ∀ n, ctb (2 ^ i * a + b) (i + n) = ctb b i + ctb a n
  | 0 => by rw [Nat.add_zero, ctb_low hb i (Nat.le_refl _)]; rfl
  | n + 1 => by
    have e : (2 ^ i * a + b).testBit (i + n) = a.testBit n := by rw [Nat.testBit_two_pow_mul_add a hb, if_neg (show ¬ i + n < i by omega), show i + n - i = n by omega]
    rw [show i + (n + 1) = (i + n) + 1 by omega, ctb, ctb, ctb_high hb n, e]
    omega
theorem ctb_8 {a b : Nat} (hb : b < 256) (n : Nat) : ctb (256 * a + b) (8 + n) = ctb b 8 + ctb a n := ctb_high (i := 8) hb n
def pcS (x : Int32) (k : Nat) : Int32 := (x.toUInt32 >>> ((nI k).toUInt32 &&& Int32.toUInt32 31)).toInt32
def pc1 (x : Int32) : Int32 := x - (pcS x 1 &&& nI 1431655765)
def pc2 (x : Int32) : Int32 := (x &&& nI 858993459) + (pcS x 2 &&& nI 858993459)
def pc3 (x : Int32) : Int32 := (x + pcS x 4) &&& nI 252645135
def pc4 (x : Int32) : Int32 := x + pcS x 8
def pc5 (x : Int32) : Int32 := x + pcS x 16
def popC (x : Int32) : Int32 := pc5 (pc4 (pc3 (pc2 (pc1 x)))) &&& nI 63
theorem ub_sh (x : Int32) (k : Nat) (hk : k < 32) : ub (pcS x k) = ub x / 2 ^ k :=
  pk_ushr x (nI k) k ((by decide +kernel : ∀ k, k < 32 → (((nI k).toUInt32 &&& Int32.toUInt32 31).toBitVec % 32).toNat = k) k hk)
theorem pop_b1 : ∀ b, b < 256 → ∀ t, t < 2 → ((b / 2 + 128 * t) &&& 85) = ((b / 2) &&& 85) ∧ ((b / 2) &&& 85) ≤ b := by decide +kernel
theorem pop_b2 : ∀ q, q < 256 → ∀ t, t < 4 → ((q / 4 + 64 * t) &&& 51) = ((q / 4) &&& 51) ∧ (q &&& 51) + ((q / 4) &&& 51) < 256 := by decide +kernel
def pq1 (b : Nat) : Nat := b - ((b / 2) &&& 85)
def pq2 (q : Nat) : Nat := (q &&& 51) + ((q / 4) &&& 51)
theorem pop_b3 : ∀ b, b < 256 → pq1 b < 256 ∧ pq2 (pq1 b) < 256 ∧ pq2 (pq1 b) % 16 ≤ 4 ∧ pq2 (pq1 b) / 16 ≤ 4 ∧ pq2 (pq1 b) % 16 + pq2 (pq1 b) / 16 = ctb b 8 ∧ ctb b 8 ≤ 8 := by decide +kernel
theorem pop_b4 : ∀ s, s < 16 → ∀ u, u < 16 → ((16 * u + s) &&& 15) = s := by decide +kernel
theorem pop_63 : ∀ n, n < 64 → (n &&& 63) = n := by decide +kernel
theorem pl_sub {X Y : Nat} (h : Y ≤ X) (hx : X < 4294967296) : (4294967296 - Y + X) % 4294967296 = X - Y := by omega
theorem pl_add {X Y : Nat} (h : X + Y < 4294967296) : (X + Y) % 4294967296 = X + Y := Nat.mod_eq_of_lt h
theorem pl_h1 {A b : Nat} (h : b < 256) : (256 * A + b) / 2 = 256 * (A / 2) + (b / 2 + 128 * (A % 2)) := by omega
theorem pl_m1 {A b : Nat} : (256 * A + b) % 2 = b % 2 := by omega
theorem pl_h2 {A b : Nat} (h : b < 256) : (256 * A + b) / 4 = 256 * (A / 4) + (b / 4 + 64 * (A % 4)) := by omega
theorem pl_m2 {A b : Nat} : (256 * A + b) % 4 = b % 4 := by omega
theorem pl_h4 {A b : Nat} (h : b < 256) : (256 * A + b) / 16 = 256 * (A / 16) + (b / 16 + 16 * (A % 16)) := by omega
theorem pl_m4 {A b : Nat} : (256 * A + b) % 16 = b % 16 := by omega
theorem pl_h8 {A b : Nat} (h : b < 256) : (256 * A + b) / 256 = A := by omega
def w4 (b3 b2 b1 b0 : Nat) : Nat := 256 * (256 * (256 * b3 + b2) + b1) + b0
theorem w4_and {a3 a2 a1 a0 b3 b2 b1 b0 : Nat} (h2 : a2 < 256) (h1 : a1 < 256) (h0 : a0 < 256) (k2 : b2 < 256) (k1 : b1 < 256) (k0 : b0 < 256) : w4 a3 a2 a1 a0 &&& w4 b3 b2 b1 b0 = w4 (a3 &&& b3) (a2 &&& b2) (a1 &&& b1) (a0 &&& b0) := by
  unfold w4
  rw [nb_8 h0 k0, nb_8 h1 k1, nb_8 h2 k2]
theorem w4_lt {a3 a2 a1 a0 : Nat} (h3 : a3 < 256) (h2 : a2 < 256) (h1 : a1 < 256) (h0 : a0 < 256) : w4 a3 a2 a1 a0 < 4294967296 := by
  unfold w4
  omega
theorem w4_sub {a3 a2 a1 a0 b3 b2 b1 b0 : Nat} (h3 : b3 ≤ a3) (h2 : b2 ≤ a2) (h1 : b1 ≤ a1) (h0 : b0 ≤ a0) : w4 b3 b2 b1 b0 ≤ w4 a3 a2 a1 a0 ∧ w4 a3 a2 a1 a0 - w4 b3 b2 b1 b0 = w4 (a3 - b3) (a2 - b2) (a1 - b1) (a0 - b0) := by
  unfold w4
  omega
theorem w4_add {a3 a2 a1 a0 b3 b2 b1 b0 : Nat} : w4 a3 a2 a1 a0 + w4 b3 b2 b1 b0 = w4 (a3 + b3) (a2 + b2) (a1 + b1) (a0 + b0) := by
  unfold w4
  omega
theorem w4_h1 {b3 b2 b1 b0 : Nat} (h2 : b2 < 256) (h1 : b1 < 256) (h0 : b0 < 256) : w4 b3 b2 b1 b0 / 2 = w4 (b3 / 2) (b2 / 2 + 128 * (b3 % 2)) (b1 / 2 + 128 * (b2 % 2)) (b0 / 2 + 128 * (b1 % 2)) := by
  unfold w4
  rw [pl_h1 h0, pl_h1 h1, pl_h1 h2, pl_m1, pl_m1]
theorem w4_h2 {b3 b2 b1 b0 : Nat} (h2 : b2 < 256) (h1 : b1 < 256) (h0 : b0 < 256) : w4 b3 b2 b1 b0 / 4 = w4 (b3 / 4) (b2 / 4 + 64 * (b3 % 4)) (b1 / 4 + 64 * (b2 % 4)) (b0 / 4 + 64 * (b1 % 4)) := by
  unfold w4
  rw [pl_h2 h0, pl_h2 h1, pl_h2 h2, pl_m2, pl_m2]
theorem w4_h4 {b3 b2 b1 b0 : Nat} (h2 : b2 < 256) (h1 : b1 < 256) (h0 : b0 < 256) : w4 b3 b2 b1 b0 / 16 = w4 (b3 / 16) (b2 / 16 + 16 * (b3 % 16)) (b1 / 16 + 16 * (b2 % 16)) (b0 / 16 + 16 * (b1 % 16)) := by
  unfold w4
  rw [pl_h4 h0, pl_h4 h1, pl_h4 h2, pl_m4, pl_m4]
theorem w4_h8 {b3 b2 b1 b0 : Nat} (h0 : b0 < 256) : w4 b3 b2 b1 b0 / 256 = w4 0 b3 b2 b1 := by
  unfold w4
  rw [pl_h8 h0]
  omega
theorem w4_h16 {b3 b2 b1 b0 : Nat} (h1 : b1 < 256) (h0 : b0 < 256) : w4 b3 b2 b1 b0 / 65536 = w4 0 0 b3 b2 := by
  rw [show (65536 : Nat) = 256 * 256 from rfl, ← Nat.div_div_eq_div_mul, w4_h8 h0, w4_h8 h1]
theorem pop_v1 {x : Int32} {b3 b2 b1 b0 : Nat} (h3 : b3 < 256) (h2 : b2 < 256) (h1 : b1 < 256) (h0 : b0 < 256) (hX : ub x = w4 b3 b2 b1 b0) : ub (pc1 x) = w4 (pq1 b3) (pq1 b2) (pq1 b1) (pq1 b0) := by
  obtain ⟨a0, c0⟩ := pop_b1 b0 h0 (b1 % 2) (by omega)
  obtain ⟨a1, c1⟩ := pop_b1 b1 h1 (b2 % 2) (by omega)
  obtain ⟨a2, c2⟩ := pop_b1 b2 h2 (b3 % 2) (by omega)
  obtain ⟨a3, c3⟩ := pop_b1 b3 h3 0 (by omega)
  rw [pc1, ub_sub, ub_and, ub_sh x 1 (by decide), ub_nI (by decide), hX, show (2 : Nat) ^ 1 = 2 from rfl, w4_h1 h2 h1 h0, show (1431655765 : Nat) = w4 85 85 85 85 from rfl, w4_and (by omega) (by omega) (by omega) (by decide) (by decide) (by decide), a0, a1, a2]
  obtain ⟨l1, l2⟩ := w4_sub (a3 := b3) (a2 := b2) (a1 := b1) (a0 := b0) c3 c2 c1 c0
  rw [pl_sub l1 (w4_lt h3 h2 h1 h0), l2]
  rfl
theorem pop_v2 {x : Int32} {b3 b2 b1 b0 : Nat} (h3 : b3 < 256) (h2 : b2 < 256) (h1 : b1 < 256) (h0 : b0 < 256) (hX : ub x = w4 b3 b2 b1 b0) : ub (pc2 x) = w4 (pq2 b3) (pq2 b2) (pq2 b1) (pq2 b0) := by
  obtain ⟨a0, c0⟩ := pop_b2 b0 h0 (b1 % 4) (by omega)
  obtain ⟨a1, c1⟩ := pop_b2 b1 h1 (b2 % 4) (by omega)
  obtain ⟨a2, c2⟩ := pop_b2 b2 h2 (b3 % 4) (by omega)
  obtain ⟨a3, c3⟩ := pop_b2 b3 h3 0 (by omega)
  rw [pc2, ub_add, ub_and, ub_and, ub_sh x 2 (by decide), ub_nI (by decide), hX, show (2 : Nat) ^ 2 = 4 from rfl, w4_h2 h2 h1 h0, show (858993459 : Nat) = w4 51 51 51 51 from rfl, w4_and h2 h1 h0 (by decide) (by decide) (by decide), w4_and (by omega) (by omega) (by omega) (by decide) (by decide) (by decide), a0, a1, a2, w4_add]
  exact Nat.mod_eq_of_lt (w4_lt c3 c2 c1 c0)
theorem pop_v3 {x : Int32} {b3 b2 b1 b0 c3 c2 c1 c0 : Nat} (h3 : b3 < 256) (h2 : b2 < 256) (h1 : b1 < 256) (h0 : b0 < 256) (l3 : b3 % 16 ≤ 4 ∧ b3 / 16 ≤ 4) (l2 : b2 % 16 ≤ 4 ∧ b2 / 16 ≤ 4) (l1 : b1 % 16 ≤ 4 ∧ b1 / 16 ≤ 4) (l0 : b0 % 16 ≤ 4 ∧ b0 / 16 ≤ 4)
    (e3 : b3 % 16 + b3 / 16 = c3) (e2 : b2 % 16 + b2 / 16 = c2) (e1 : b1 % 16 + b1 / 16 = c1) (e0 : b0 % 16 + b0 / 16 = c0) (hX : ub x = w4 b3 b2 b1 b0) : ub (pc3 x) = w4 c3 c2 c1 c0 := by
  have s3 : b3 + b3 / 16 = 16 * (b3 / 16) + c3 := by omega
  have s2 : b2 + (b2 / 16 + 16 * (b3 % 16)) = 16 * (b2 / 16 + b3 % 16) + c2 := by omega
  have s1 : b1 + (b1 / 16 + 16 * (b2 % 16)) = 16 * (b1 / 16 + b2 % 16) + c1 := by omega
  have s0 : b0 + (b0 / 16 + 16 * (b1 % 16)) = 16 * (b0 / 16 + b1 % 16) + c0 := by omega
  have t3 := pop_b4 c3 (by omega) (b3 / 16) (by omega)
  have t2 := pop_b4 c2 (by omega) (b2 / 16 + b3 % 16) (by omega)
  have t1 := pop_b4 c1 (by omega) (b1 / 16 + b2 % 16) (by omega)
  have t0 := pop_b4 c0 (by omega) (b0 / 16 + b1 % 16) (by omega)
  rw [pc3, ub_and, ub_add, ub_sh x 4 (by decide), ub_nI (by decide), hX, show (2 : Nat) ^ 4 = 16 from rfl, w4_h4 h2 h1 h0, w4_add, s3, s2, s1, s0, Nat.mod_eq_of_lt (w4_lt (by omega) (by omega) (by omega) (by omega)), show (252645135 : Nat) = w4 15 15 15 15 from rfl, w4_and (by omega) (by omega) (by omega) (by decide) (by decide) (by decide), t3, t2, t1, t0]
theorem popC_ub (x : Int32) : ub (popC x) = ctb (ub x) 32 := by
  generalize hX : ub x = X
  have hXl : X < 4294967296 := by rw [← hX]; exact ub_lt x
  obtain ⟨b0, b1, b2, b3, h0, h1, h2, h3, rfl⟩ : ∃ b0 b1 b2 b3 : Nat, b0 < 256 ∧ b1 < 256 ∧ b2 < 256 ∧ b3 < 256 ∧ X = w4 b3 b2 b1 b0 := ⟨X % 256, X / 256 % 256, X / 65536 % 256, X / 16777216, by omega, by omega, by omega, by omega, by unfold w4; omega⟩
  have hc : ctb (w4 b3 b2 b1 b0) 32 = ctb b0 8 + (ctb b1 8 + (ctb b2 8 + ctb b3 8)) := by
    unfold w4
    rw [show 32 = 8 + 24 from rfl, ctb_8 h0, show 24 = 8 + 16 from rfl, ctb_8 h1, show 16 = 8 + 8 from rfl, ctb_8 h2]
  obtain ⟨p0, p0', p0a, p0b, p0c, p0d⟩ := pop_b3 b0 h0
  obtain ⟨p1, p1', p1a, p1b, p1c, p1d⟩ := pop_b3 b1 h1
  obtain ⟨p2, p2', p2a, p2b, p2c, p2d⟩ := pop_b3 b2 h2
  obtain ⟨p3, p3', p3a, p3b, p3c, p3d⟩ := pop_b3 b3 h3
  have v1 := pop_v1 h3 h2 h1 h0 hX
  have v2 := pop_v2 p3 p2 p1 p0 v1
  have v3 := pop_v3 p3' p2' p1' p0' ⟨p3a, p3b⟩ ⟨p2a, p2b⟩ ⟨p1a, p1b⟩ ⟨p0a, p0b⟩ p3c p2c p1c p0c v2
  rw [hc]
  unfold popC
  generalize pc3 (pc2 (pc1 x)) = e3 at *
  generalize ctb b0 8 = c0 at *
  generalize ctb b1 8 = c1 at *
  generalize ctb b2 8 = c2 at *
  generalize ctb b3 8 = c3 at *
  have v4 : ub (pc4 e3) = w4 c3 (c2 + c3) (c1 + c2) (c0 + c1) := by
    rw [pc4, ub_add, ub_sh e3 8 (by decide), v3, show (2 : Nat) ^ 8 = 256 from rfl, w4_h8 (by omega), w4_add, Nat.mod_eq_of_lt (w4_lt (by omega) (by omega) (by omega) (by omega))]
    rfl
  have v5 : ub (pc5 (pc4 e3)) = w4 c3 (c2 + c3) (c1 + c2 + c3) (c0 + c1 + (c2 + c3)) := by
    rw [pc5, ub_add, ub_sh (pc4 e3) 16 (by decide), v4, show (2 : Nat) ^ 16 = 65536 from rfl, w4_h16 (by omega) (by omega), w4_add, Nat.mod_eq_of_lt (w4_lt (by omega) (by omega) (by omega) (by omega))]
    rfl
  rw [ub_and, ub_nI (by decide), v5, show (63 : Nat) = w4 0 0 0 63 from rfl, w4_and (by omega) (by omega) (by omega) (by decide) (by decide) (by decide), Nat.and_zero, Nat.and_zero, Nat.and_zero, pop_63 _ (by omega)]
  unfold w4
  omega
theorem ctb_le (X : Nat) : ∀ n, ctb X n ≤ n
  | 0 => Nat.le_refl _
  | n + 1 => by
    have := ctb_le X n
    rw [ctb]
    split <;> omega
theorem popC_eq (x : Int32) : popC x = nI (ctb (ub x) 32) := by
  have := ctb_le (ub x) 32
  exact ub_inj (by rw [popC_ub, ub_nI (by omega)])
