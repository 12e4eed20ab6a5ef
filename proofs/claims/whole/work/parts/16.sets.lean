/-! ===== THE CARDS OF A SET, the lowest first ===== -/
def bts (X : Nat) : Nat → List Nat
  | 0 => []
  | n + 1 => bts X n ++ (if X.testBit n then [n] else [])
theorem bts_len (X : Nat) : ∀ n, (bts X n).length = ctb X n
  | 0 => rfl
  | n + 1 => by
    rw [bts, ctb, List.length_append, bts_len X n]
    split <;> rfl
theorem bts_mem {X i : Nat} : ∀ {n : Nat}, i ∈ bts X n ↔ i < n ∧ X.testBit i = true
  | 0 => by simp [bts]
  | n + 1 => by
    rw [bts, List.mem_append, bts_mem]
    constructor
    · rintro (⟨h1, h2⟩ | h)
      · exact ⟨by omega, h2⟩
      · split at h
        · rename_i hb
          rw [List.mem_singleton] at h
          subst h
          exact ⟨by omega, hb⟩
        · cases h
    · rintro ⟨h1, h2⟩
      by_cases e : i = n
      · subst e
        rw [if_pos h2]
        exact Or.inr List.mem_cons_self
      · exact Or.inl ⟨by omega, h2⟩
theorem low_ex : ∀ (n X : Nat), X ≤ n → X ≠ 0 → ∃ k m, X = 2 ^ (k + 1) * m + 2 ^ k
  | 0, X, h, h0 => absurd (Nat.le_zero.mp h) h0
  | n + 1, X, h, h0 => by
    by_cases ho : X % 2 = 1
    · exact ⟨0, X / 2, by rw [show 2 ^ (0 + 1) = 2 from rfl, show 2 ^ 0 = 1 from rfl]; omega⟩
    · obtain ⟨k, m, e⟩ := low_ex n (X / 2) (by omega) (by omega)
      refine ⟨k + 1, m, ?_⟩
      have h2 : X = 2 * (X / 2) := by omega
      rw [h2, e, Nat.pow_succ 2 (k + 1), Nat.pow_succ 2 k]
      rw [Nat.mul_add, ← Nat.mul_assoc, Nat.mul_comm 2 (2 ^ k * 2), Nat.mul_comm 2 (2 ^ k)]
theorem low_bit {k m j : Nat} : (2 ^ (k + 1) * m + 2 ^ k).testBit j = if j < k then false else if j = k then true else (2 ^ (k + 1) * m).testBit j := by
  have hp : 2 ^ k < 2 ^ (k + 1) := Nat.pow_lt_pow_right (by decide) (by omega)
  rw [Nat.testBit_two_pow_mul_add m hp, Nat.testBit_two_pow]
  by_cases h1 : j < k
  · rw [if_pos (by omega), if_pos h1]
    simp
    omega
  · by_cases h2 : j = k
    · rw [if_pos (by omega), if_neg h1, if_pos h2]
      simp
      omega
    · rw [if_neg (by omega), if_neg h1, if_neg h2]
      have := Nat.testBit_two_pow_mul_add m (b := 0) (i := k + 1) (Nat.two_pow_pos _) j
      rw [Nat.add_zero, if_neg (by omega)] at this
      exact this.symm
theorem high_bit {k m j : Nat} (h : j ≤ k) : (2 ^ (k + 1) * m).testBit j = false := by
  have := Nat.testBit_two_pow_mul_add m (b := 0) (i := k + 1) (Nat.two_pow_pos _) j
  rw [Nat.add_zero, if_pos (by omega)] at this
  rw [this]
  exact Nat.zero_testBit j
theorem bts_none {X : Nat} : ∀ {n : Nat}, (∀ j, j < n → X.testBit j = false) → bts X n = []
  | 0, _ => rfl
  | n + 1, h => by
    rw [bts, bts_none (fun j hj => h j (by omega)), h n (by omega)]
    rfl
theorem bts_low {k m : Nat} : ∀ (n : Nat), bts (2 ^ (k + 1) * m + 2 ^ k) (k + 1 + n) = k :: bts (2 ^ (k + 1) * m) (k + 1 + n)
  | 0 => by
    have e : (2 ^ (k + 1) * m + 2 ^ k).testBit k = true := by rw [low_bit, if_neg (show ¬ k < k by omega), if_pos rfl]
    rw [Nat.add_zero, bts, bts_none (fun j hj => by rw [low_bit, if_pos hj]), e, bts_none (X := 2 ^ (k + 1) * m) (fun j hj => high_bit (by omega))]
    rfl
  | n + 1 => by
    have e : (2 ^ (k + 1) * m + 2 ^ k).testBit (k + 1 + n) = (2 ^ (k + 1) * m).testBit (k + 1 + n) := by rw [low_bit, if_neg (show ¬ k + 1 + n < k by omega), if_neg (show ¬ k + 1 + n = k by omega)]
    rw [show k + 1 + (n + 1) = (k + 1 + n) + 1 by omega, bts, bts, bts_low n, e]
    rfl
theorem low_dec {k m : Nat} : (2 ^ (k + 1) * m + 2 ^ k) &&& (2 ^ (k + 1) * m + 2 ^ k - 1) = 2 ^ (k + 1) * m := by
  have hp : 2 ^ k < 2 ^ (k + 1) := Nat.pow_lt_pow_right (by decide) (by omega)
  have h0 : 0 < 2 ^ k := Nat.two_pow_pos k
  rw [Nat.add_sub_assoc h0, nb_split hp (by omega), Nat.and_self]
  have : 2 ^ k &&& (2 ^ k - 1) = 0 := by
    refine Nat.eq_of_testBit_eq fun j => ?_
    rw [Nat.testBit_and, Nat.testBit_two_pow, Nat.testBit_two_pow_sub_one, Nat.zero_testBit]
    by_cases h : k = j
    · subst h
      simp
    · simp [h]
  rw [this, Nat.add_zero]
theorem and_compl {m j : Nat} (h : m < 2 ^ j) : m &&& (2 ^ j - 1 - m) = 0 := by
  refine Nat.eq_of_testBit_eq fun i => ?_
  rw [Nat.testBit_and, show 2 ^ j - 1 - m = 2 ^ j - (m + 1) by omega, Nat.testBit_two_pow_sub_succ h, Nat.zero_testBit]
  cases m.testBit i <;> simp
theorem low_neg {k m : Nat} (hk : k < 32) (hX : 2 ^ (k + 1) * m + 2 ^ k < 4294967296) : (2 ^ (k + 1) * m + 2 ^ k) &&& (4294967296 - (2 ^ (k + 1) * m + 2 ^ k)) = 2 ^ k := by
  have hp : 2 ^ k < 2 ^ (k + 1) := Nat.pow_lt_pow_right (by decide) (by omega)
  have e32 : (4294967296 : Nat) = 2 ^ (k + 1) * 2 ^ (31 - k) := by rw [← Nat.pow_add, show k + 1 + (31 - k) = 32 by omega]
  have hm : m < 2 ^ (31 - k) := by
    rw [e32] at hX
    exact Nat.lt_of_mul_lt_mul_left (Nat.lt_of_le_of_lt (Nat.le_add_right _ _) hX)
  have e2 : 2 ^ (k + 1) = 2 ^ k + 2 ^ k := by rw [Nat.pow_succ]; omega
  have e3 : 4294967296 - (2 ^ (k + 1) * m + 2 ^ k) = 2 ^ (k + 1) * (2 ^ (31 - k) - 1 - m) + 2 ^ k := by
    have h3 : 2 ^ (31 - k) = (2 ^ (31 - k) - 1 - m) + m + 1 := by omega
    generalize 2 ^ (31 - k) - 1 - m = q at *
    rw [e32, h3, Nat.mul_add, Nat.mul_add, Nat.mul_one]
    generalize 2 ^ (k + 1) * m = a at *
    generalize 2 ^ (k + 1) * q = b at *
    omega
  rw [e3, nb_split hp hp, and_compl hm, Nat.and_self, Nat.mul_zero, Nat.zero_add]
theorem pop_pred : ∀ k, k < 32 → ctb (2 ^ k - 1) 32 = k := by decide +kernel
def fLow (c : Int32) : Int32 := if c = nI 0 then -1 else popC ((c &&& (-c)) - nI 1)
/-- a set that isn't empty: its lowest card, and the others -/
theorem low_of {x : Int32} (h : x ≠ 0) : ∃ k : Nat, k < 32 ∧ fLow x = nI k ∧ bts (ub x) 32 = k :: bts (ub (x &&& (x - nI 1))) 32 ∧ bt x k = true := by
  have hu : ub x ≠ 0 := fun e => h (ub_inj (by rw [e]; rfl))
  obtain ⟨k, m, e⟩ := low_ex _ (ub x) (Nat.le_refl _) hu
  have hl := ub_lt x
  have hk : k < 32 := by
    apply Classical.byContradiction
    intro hn
    have : 2 ^ 32 ≤ 2 ^ k := Nat.pow_le_pow_right (by decide) (by omega)
    rw [e] at hl
    have : (4294967296 : Nat) = 2 ^ 32 := rfl
    omega
  refine ⟨k, hk, ?_, ?_, ?_⟩
  · unfold fLow
    rw [if_neg (show ¬ x = nI 0 from h), popC_eq]
    have e1 : ub ((x &&& (-x)) - nI 1) = 2 ^ k - 1 := by
      have hp : 0 < 2 ^ k := Nat.two_pow_pos k
      have hp2 : 2 ^ k < 4294967296 := by rw [show (4294967296 : Nat) = 2 ^ 32 from rfl]; exact Nat.pow_lt_pow_right (by decide) hk
      rw [ub_sub, ub_and, ub_neg, Nat.mod_eq_of_lt (show 4294967296 - ub x < 4294967296 by omega)]
      rw [e, low_neg hk (by rw [← e]; exact hl), ub_nI (by decide)]
      omega
    rw [e1, pop_pred k hk]
  · have e2 : ub (x &&& (x - nI 1)) = 2 ^ (k + 1) * m := by
      have e3 : ub (x - nI 1) = ub x - 1 := by
        rw [ub_sub, ub_nI (by decide)]
        omega
      rw [ub_and, e3, e, low_dec]
    rw [e2, e]
    have := bts_low (k := k) (m := m) (31 - k)
    rw [show k + 1 + (31 - k) = 32 by omega] at this
    exact this
  · unfold bt
    rw [e, low_bit, if_neg (by omega), if_pos rfl]
theorem bts_zero : bts (ub 0) 32 = [] := by decide +kernel
theorem bts_nil {x : Int32} (h : bts (ub x) 32 = []) : x = 0 := by
  apply Classical.byContradiction
  intro hn
  obtain ⟨k, -, -, e, -⟩ := low_of hn
  rw [h] at e
  cases e
theorem pop_len (x : Int32) : popC x = nI (bts (ub x) 32).length := by rw [popC_eq, bts_len]
theorem bts_lt {x : Int32} {c : Nat} (h : c ∈ bts (ub x) 32) : c < 32 ∧ bt x c = true := bts_mem.mp h
theorem bts_32 (x : Int32) : (bts (ub x) 32).length ≤ 32 := by
  rw [bts_len]
  exact ctb_le _ _
