/-! ===== HOW MANY CARDS: hands, and the end ===== -/
theorem ctb_set {X c : Nat} (hc : X.testBit c = false) : ∀ n, ctb (X ||| 2 ^ c) n = ctb X n + (if c < n then 1 else 0)
  | 0 => rfl
  | n + 1 => by
    rw [ctb, ctb, ctb_set hc n, Nat.testBit_or, Nat.testBit_two_pow]
    by_cases e : c = n
    · subst e
      rw [hc, if_neg (show ¬ c < c by omega), if_pos (show c < c + 1 by omega)]
      simp
    · have e1 : (c < n ↔ c < n + 1) := by omega
      simp only [e, decide_false, Bool.or_false, e1]
      omega
theorem ctb_full {X : Nat} : ∀ {n : Nat}, ctb X n = n → ∀ j, j < n → X.testBit j = true
  | 0, _, j, hj => absurd hj (Nat.not_lt_zero _)
  | n + 1, h, j, hj => by
    have hle := ctb_le X n
    rw [ctb] at h
    have h1 : X.testBit n = true := by
      cases q : X.testBit n with
      | true => rfl
      | false => rw [q] at h; simp at h; omega
    rw [h1] at h
    have h2 : ctb X n = n := by simpa using h
    by_cases e : j = n
    · rw [e]
      exact h1
    · exact ctb_full h2 j (by omega)
theorem ctb_pos {X : Nat} : ∀ {n : Nat}, 0 < ctb X n → ∃ j, j < n ∧ X.testBit j = true
  | 0, h => absurd h (Nat.lt_irrefl 0)
  | n + 1, h => by
    cases q : X.testBit n with
    | true => exact ⟨n, by omega, q⟩
    | false =>
      rw [ctb, q] at h
      obtain ⟨j, h1, h2⟩ := ctb_pos (X := X) (n := n) (by simpa using h)
      exact ⟨j, by omega, h2⟩
theorem ub_fBit : ∀ c, c < 32 → ub (fBit (nI c)) = 2 ^ c := by decide +kernel
/-- cards in a set -/
def pop (x : Int32) : Nat := ctb (ub x) 32
theorem pop_or {x : Int32} {c : Nat} (hc : c < 32) (h : bt x c = false) : pop (x ||| fBit (nI c)) = pop x + 1 := by
  unfold pop
  rw [ub_or, ub_fBit c hc, ctb_set h, if_pos hc]
theorem pop_not {x : Int32} {c : Nat} (hc : c < 32) (h : bt x c = true) : pop (x &&& (fBit (nI c) ^^^ (-1))) + 1 = pop x := by
  have e : (x &&& (fBit (nI c) ^^^ (-1))) ||| fBit (nI c) = x := bt_ext (fun i hi => by
    rw [bt_or, bt_and, bt_not hi, bt_fBit c hc i hi]
    by_cases q : i = c
    · subst q
      simp [h]
    · simp [q])
  have h2 : bt (x &&& (fBit (nI c) ^^^ (-1))) c = false := by
    rw [bt_and, bt_not hc, bt_fBit c hc c hc]
    simp
  rw [← pop_or hc h2, e]
/-- how often player q played among the first n cards -/
def aNp (x : aX) (cs : List Nat) (q : Nat) : Nat → Nat
  | 0 => 0
  | n + 1 => aNp x cs q n + (if aTn x cs n = q then 1 else 0)
theorem aNp_old {x : aX} {cs : List Nat} {c q : Nat} : ∀ {n : Nat}, n ≤ cs.length + 1 → aNp x (cs ++ [c]) q n = aNp x cs q n
  | 0, _ => rfl
  | n + 1, h => by rw [aNp, aNp, aNp_old (n := n) (by omega), aTn_old (by omega)]
theorem aNp_trick {x : aX} {cs : List Nat} {q : Nat} (hq : q < 4) : ∀ i, aNp x cs q (4 * i) = i
  | 0 => rfl
  | i + 1 => by
    have e : 4 * (i + 1) = 4 * i + 1 + 1 + 1 + 1 := by omega
    rw [e, aNp, aNp, aNp, aNp, aNp_trick hq i]
    have t : ∀ k, k < 4 → aTn x cs (4 * i + k) = (aLd x cs i + k) % 4 := fun k hk => by
      unfold aTn
      rw [show (4 * i + k) / 4 = i by omega, show (4 * i + k) % 4 = k by omega]
    have t0 := t 0 (by omega)
    have t1 := t 1 (by omega)
    have t2 := t 2 (by omega)
    have t3 := t 3 (by omega)
    rw [Nat.add_zero] at t0
    rw [show 4 * i + 1 + 1 = 4 * i + 2 by omega, show 4 * i + 2 + 1 = 4 * i + 3 by omega, t0, t1, t2, t3]
    generalize aLd x cs i = l
    have h4 : l % 4 < 4 := Nat.mod_lt _ (by decide)
    (repeat' split) <;> omega
/-- who is in turn has played in the full tricks alone -/
theorem aNp_turn {x : aX} {cs : List Nat} (n : Nat) : aNp x cs (aTn x cs n) n = n / 4 := by
  have hq : aTn x cs n < 4 := aTn_lt
  have tt : aTn x cs n = (aLd x cs (n / 4) + n % 4) % 4 := rfl
  have t : ∀ k, k < 4 → aTn x cs (4 * (n / 4) + k) = (aLd x cs (n / 4) + k) % 4 := fun k hk => by
    unfold aTn
    rw [show (4 * (n / 4) + k) / 4 = n / 4 by omega, show (4 * (n / 4) + k) % 4 = k by omega]
  have b := aNp_trick (x := x) (cs := cs) hq (n / 4)
  have t0 := t 0 (by omega)
  have t1 := t 1 (by omega)
  have t2 := t 2 (by omega)
  rw [Nat.add_zero] at t0
  generalize hp : aTn x cs n = p at *
  generalize aLd x cs (n / 4) = l at *
  have hm : n % 4 < 4 := Nat.mod_lt _ (by decide)
  obtain h | h | h | h : n % 4 = 0 ∨ n % 4 = 1 ∨ n % 4 = 2 ∨ n % 4 = 3 := by omega
  · rw [show n = 4 * (n / 4) by omega, b]
    omega
  · have e : n = 4 * (n / 4) + 1 := by omega
    have : aNp x cs p (4 * (n / 4) + 1) = n / 4 := by
      rw [aNp, b, t0, if_neg (by omega)]
      rfl
    rw [← e] at this
    exact this
  · have e : n = 4 * (n / 4) + 1 + 1 := by omega
    have : aNp x cs p (4 * (n / 4) + 1 + 1) = n / 4 := by
      rw [aNp, aNp, b, t0, t1, if_neg (by omega), if_neg (by omega)]
      rfl
    rw [← e] at this
    exact this
  · have e : n = 4 * (n / 4) + 1 + 1 + 1 := by omega
    have : aNp x cs p (4 * (n / 4) + 1 + 1 + 1) = n / 4 := by
      rw [aNp, aNp, aNp, b, t0, t1, show 4 * (n / 4) + 1 + 1 = 4 * (n / 4) + 2 by omega, t2, if_neg (by omega), if_neg (by omega), if_neg (by omega)]
      rfl
    rw [← e] at this
    exact this
theorem aHd_nil {dl : Nat → Int32} {q : Nat} : aHd dl [] q = dl q := bt_ext (fun i hi => by
  rw [bt_aHd (fun c hc => by cases hc) hi]
  simp)
/-- each has eight cards, less those that they have played -/
theorem pop_aHd {x : aX} {dl : Nat → Int32} : ∀ (n : Nat) (cs : List Nat), cs.length = n → aOk x dl cs → ∀ q, q < 4 → pop (aHd dl cs q) + aNp x cs q n = 8
  | 0, cs, hl, hok, q, hq => by
    obtain rfl : cs = [] := List.eq_nil_of_length_eq_zero hl
    rw [aHd_nil]
    exact hok.2.2.2.1.2 q hq
  | n + 1, cs, hl, hok, q, hq => by
    obtain ⟨cs', c, rfl⟩ : ∃ cs' c, cs = cs' ++ [c] := ⟨cs.dropLast, cs.getLast (fun z => by rw [z] at hl; cases hl), (List.dropLast_concat_getLast _).symm⟩
    rw [List.length_append, List.length_singleton] at hl
    obtain ⟨hok1, hc, hbc, hnm⟩ := hok.old
    have hlt := aOk.lt hok1
    have ih := pop_aHd n cs' (by omega) hok1 q hq
    have hn : cs'.length = n := by omega
    rw [aNp, aNp_old (by omega), aTn_old (by omega)]
    by_cases e : aTn x cs' n = q
    · rw [if_pos e, aMk_in hlt hc]
      have hb : bt (aHd dl cs' q) c = true := by
        rw [bt_aHd hlt hc, ← e, ← hn, hbc]
        simp [hnm]
      have := pop_not hc hb
      omega
    · rw [if_neg e, aHd_other hlt hc hok.2.2.2.1 aTn_lt hq hbc (by rw [hn]; exact Ne.symm e)]
      omega
theorem pop_ne {x : Int32} (h : 0 < pop x) : x ≠ 0 := fun e => by
  rw [e] at h
  exact absurd h (by decide)
theorem bt_ne {x : Int32} {c : Nat} (h : bt x c = true) : x ≠ 0 := fun e => by
  rw [e, bt_0] at h
  cases h
/-- while cards are left, who is in turn may play one -/
theorem hand_ne {x : aX} {dl : Nat → Int32} {cs : List Nat} (hok : aOk x dl cs) (hn : cs.length < 32) : aHd dl cs (aTn x cs cs.length) ≠ 0 := by
  have h := pop_aHd cs.length cs rfl hok (aTn x cs cs.length) aTn_lt
  rw [aNp_turn] at h
  exact pop_ne (by omega)
theorem aAl_sub {x : aX} {dl : Nat → Int32} {cs : List Nat} {j : Nat} (h : bt (aAl x dl cs) j = true) : bt (aHd dl cs (aTn x cs cs.length)) j = true := by
  unfold aAl at h
  split at h
  · exact h
  · split at h
    · rw [bt_and, Bool.and_eq_true] at h
      exact h.1
    · split at h
      · exact h
      · split at h
        · rw [bt_and, bt_and, Bool.and_eq_true, Bool.and_eq_true] at h
          exact h.1.1
        · rw [bt_and, Bool.and_eq_true] at h
          exact h.1
theorem aAl_ne {x : aX} {dl : Nat → Int32} {cs : List Nat} (hok : aOk x dl cs) (hn : cs.length < 32) : aAl x dl cs ≠ 0 := by
  have h := hand_ne hok hn
  unfold aAl
  split
  · exact h
  · split
    · rename_i h1
      exact h1
    · split
      · exact h
      · rename_i h1
        split
        · rename_i h2
          exact h2.2
        · exact fun z => h1 (Or.inr z)
theorem hand_0 {x : aX} {dl : Nat → Int32} {cs : List Nat} (hok : aOk x dl cs) (hn : cs.length = 32) : aHd dl cs (aTn x cs cs.length) = 0 := by
  have h := pop_aHd cs.length cs rfl hok (aTn x cs cs.length) aTn_lt
  rw [aNp_turn, hn] at h
  have h0 : pop (aHd dl cs (aTn x cs 32)) = 0 := by omega
  rw [hn]
  refine bt_ext (fun i hi => ?_)
  rw [bt_0]
  cases q : bt (aHd dl cs (aTn x cs 32)) i with
  | false => rfl
  | true =>
    have := pop_not hi q
    omega
theorem aAl_0 {x : aX} {dl : Nat → Int32} {cs : List Nat} (hok : aOk x dl cs) (hn : cs.length = 32) : aAl x dl cs = 0 := by
  unfold aAl
  rw [if_pos (by omega)]
  exact hand_0 hok hn
