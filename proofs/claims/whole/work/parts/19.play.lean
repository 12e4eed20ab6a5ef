/-! ===== THE PLAY, AS IT IS: trump, ranking, rule, first leader; the cards that were dealt; the cards that were played ===== -/
abbrev aX : Type := Int32 × Nat × Int32 × Nat
/-- strength: b tells whether its suit is trump -/
def sN (b : Bool) (h c : Nat) : Nat :=
  if h = 1 then 7 - c % 8
  else if h = 2 ∧ 3 ≤ c % 8 ∧ c % 8 < 7 then (if c % 8 = 3 then 6 else c % 8 - 1)
  else if h = 3 ∧ b = true then (if c % 8 = 4 then 7 else if c % 8 = 2 then 6 else c % 8 - (if 2 < c % 8 then 1 else 0) - (if 4 < c % 8 then 1 else 0))
  else c % 8
theorem sN_le (b : Bool) (h c : Nat) : sN b h c ≤ 7 := by
  unfold sN
  have : c % 8 < 8 := Nat.mod_lt _ (by decide)
  repeat' split
  all_goals omega
theorem fStr_t : ∀ h, h < 4 → ∀ c, c < 32 → fStr (nI c) (nI (c / 8)) (nI h) = nI (sN true h c) ∧ fStr (nI c) (-1) (nI h) = nI (sN false h c) := by decide +kernel
theorem fStr_no {c h : Nat} {t : Int32} (hc : c < 32) (ht : nI (c / 8) ≠ t) : fStr (nI c) t (nI h) = fStr (nI c) (-1) (nI h) := by
  have e : nI c / nI 8 = nI (c / 8) := pk_div (by omega) (by decide) (by decide)
  unfold fStr
  rw [e]
  have h1 : ¬ (nI h = nI 3 ∧ nI (c / 8) = t) := fun z => ht z.2
  have h2 : ¬ (nI h = nI 3 ∧ nI (c / 8) = -1) := fun z => by
    have := z.2
    rw [fa_eq, nI_toInt (by omega)] at this
    have e3 : ((-1 : Int32)).toInt = -1 := by decide
    omega
  rw [if_neg h1, if_neg h2]
theorem fStr_N {c h : Nat} (t : Int32) (hc : c < 32) (hh : h < 4) : fStr (nI c) t (nI h) = nI (sN (decide (nI (c / 8) = t)) h c) := by
  by_cases ht : nI (c / 8) = t
  · subst ht
    rw [(fStr_t h hh c hc).1]
    simp
  · rw [fStr_no hc ht, (fStr_t h hh c hc).2]
    simp [ht]
def aC (cs : List Nat) (j : Nat) : Nat := cs.getD j 0
theorem aC_old {cs : List Nat} {c j : Nat} (h : j < cs.length) : aC (cs ++ [c]) j = aC cs j := by
  unfold aC
  rw [List.getD_eq_getElem?_getD, List.getD_eq_getElem?_getD, List.getElem?_append_left h]
theorem aC_new {cs : List Nat} {c : Nat} : aC (cs ++ [c]) cs.length = c := by
  unfold aC
  rw [List.getD_eq_getElem?_getD, List.getElem?_append_right (Nat.le_refl _), Nat.sub_self]
  rfl
/-- how a card fares in a trick: the higher wins -/
def aPw (t : Int32) (h led c : Nat) : Int := if nI (c / 8) = t then 8 + (sN true h c : Int) else if c / 8 = led then (sN false h c : Int) else -1
def aB4 (f : Nat → Int) : Nat := if f (if f (if f 0 < f 1 then 1 else 0) < f 2 then 2 else if f 0 < f 1 then 1 else 0) < f 3 then 3 else if f (if f 0 < f 1 then 1 else 0) < f 2 then 2 else if f 0 < f 1 then 1 else 0
theorem aB4_lt (f : Nat → Int) : aB4 f < 4 := by
  unfold aB4
  repeat' split
  all_goals omega
def aBi (t : Int32) (h : Nat) (cs : List Nat) (i : Nat) : Nat := aB4 (fun k => aPw t h (aC cs (4 * i) / 8) (aC cs (4 * i + k)))
def aLd (x : aX) (cs : List Nat) : Nat → Nat
  | 0 => x.2.2.2
  | i + 1 => (aLd x cs i + aBi x.1 x.2.1 cs i) % 4
def aTn (x : aX) (cs : List Nat) (j : Nat) : Nat := (aLd x cs (j / 4) + j % 4) % 4
def aWn (x : aX) (cs : List Nat) (s : Nat) : Nat → Nat
  | 0 => 0
  | i + 1 => aWn x cs s i + (if aLd x cs (i + 1) % 2 = s then 1 else 0)
theorem aB4_congr {f g : Nat → Int} (h : ∀ k, k < 4 → f k = g k) : aB4 f = aB4 g := by
  unfold aB4
  rw [h 0 (by omega), h 1 (by omega), h 2 (by omega), h 3 (by omega)]
  have e1 : f (if g 0 < g 1 then 1 else 0) = g (if g 0 < g 1 then 1 else 0) := h _ (by split <;> omega)
  rw [e1]
  have e2 : f (if g (if g 0 < g 1 then 1 else 0) < g 2 then 2 else if g 0 < g 1 then 1 else 0) = g (if g (if g 0 < g 1 then 1 else 0) < g 2 then 2 else if g 0 < g 1 then 1 else 0) := h _ (by (repeat' split) <;> omega)
  rw [e2]
theorem aBi_old {t : Int32} {h i c : Nat} {cs : List Nat} (hi : 4 * i + 4 ≤ cs.length) : aBi t h (cs ++ [c]) i = aBi t h cs i := by
  unfold aBi
  refine aB4_congr (fun k hk => ?_)
  rw [aC_old (by omega), aC_old (by omega)]
theorem aLd_old {x : aX} {c : Nat} {cs : List Nat} : ∀ {i : Nat}, 4 * i ≤ cs.length → aLd x (cs ++ [c]) i = aLd x cs i
  | 0, _ => rfl
  | i + 1, hi => by rw [aLd, aLd, aLd_old (i := i) (by omega), aBi_old (by omega)]
theorem aTn_old {x : aX} {c j : Nat} {cs : List Nat} (hj : j ≤ cs.length) : aTn x (cs ++ [c]) j = aTn x cs j := by
  unfold aTn
  rw [aLd_old (by omega)]
theorem aWn_old {x : aX} {c s : Nat} {cs : List Nat} : ∀ {i : Nat}, 4 * i ≤ cs.length → aWn x (cs ++ [c]) s i = aWn x cs s i
  | 0, _ => rfl
  | i + 1, hi => by rw [aWn, aWn, aWn_old (i := i) (by omega), aLd_old (by omega)]
theorem aLd_lt {x : aX} {cs : List Nat} (h : x.2.2.2 < 4) : ∀ i, aLd x cs i < 4
  | 0 => h
  | i + 1 => Nat.mod_lt _ (by decide)
theorem aTn_lt {x : aX} {cs : List Nat} {j : Nat} : aTn x cs j < 4 := Nat.mod_lt _ (by decide)
theorem aWn_le {x : aX} {cs : List Nat} {s : Nat} : ∀ i, aWn x cs s i ≤ i
  | 0 => Nat.le_refl _
  | i + 1 => by
    have := aWn_le (x := x) (cs := cs) (s := s) i
    rw [aWn]
    split <;> omega
theorem aWn_sum {x : aX} {cs : List Nat} : ∀ i, aWn x cs 0 i + aWn x cs 1 i = i
  | 0 => rfl
  | i + 1 => by
    have := aWn_sum (x := x) (cs := cs) i
    rw [aWn, aWn]
    split <;> split <;> omega
/-! hands -/
theorem ub_xor (x y : Int32) : ub (x ^^^ y) = ub x ^^^ ub y := by
  unfold ub
  rw [Int32.toBitVec_xor, BitVec.toNat_xor]
theorem bt_xor (x y : Int32) (i : Nat) : bt (x ^^^ y) i = (bt x i ^^ bt y i) := by
  unfold bt
  rw [ub_xor, Nat.testBit_xor]
theorem bt_m1 : ∀ i, i < 32 → bt (-1) i = true := by decide +kernel
theorem bt_0 (i : Nat) : bt 0 i = false := Nat.zero_testBit i
theorem bt_not {x : Int32} {i : Nat} (h : i < 32) : bt (x ^^^ (-1)) i = !bt x i := by
  rw [bt_xor, bt_m1 i h]
  cases bt x i <;> rfl
theorem bt_fBit : ∀ c, c < 32 → ∀ i, i < 32 → bt (fBit (nI c)) i = decide (i = c) := by decide +kernel
theorem bt_fSuit : ∀ u, u < 4 → ∀ i, i < 32 → bt (fSuit (nI u)) i = decide (i / 8 = u) := by decide +kernel
def aMk : List Nat → Int32
  | [] => 0
  | c :: t => fBit (nI c) ||| aMk t
theorem bt_aMk : ∀ {cs : List Nat}, (∀ c ∈ cs, c < 32) → ∀ i, i < 32 → bt (aMk cs) i = decide (i ∈ cs)
  | [], _, i, _ => by
    rw [aMk, bt_0]
    simp
  | c :: t, h, i, hi => by
    rw [aMk, bt_or, bt_fBit c (h c List.mem_cons_self) i hi, bt_aMk (fun d hd => h d (List.mem_cons_of_mem _ hd)) i hi]
    simp [List.mem_cons, Bool.decide_or]
def aHd (dl : Nat → Int32) (cs : List Nat) (q : Nat) : Int32 := dl q &&& (aMk cs ^^^ (-1))
theorem bt_aHd {dl : Nat → Int32} {cs : List Nat} (h : ∀ c ∈ cs, c < 32) {q i : Nat} (hi : i < 32) : bt (aHd dl cs q) i = (bt (dl q) i && !decide (i ∈ cs)) := by
  rw [aHd, bt_and, bt_not hi, bt_aMk h i hi]
/-- a deal: no card twice, eight to each -/
def aDl (dl : Nat → Int32) : Prop := (∀ q r j, q < 4 → r < 4 → j < 32 → bt (dl q) j = true → bt (dl r) j = true → q = r) ∧ ∀ q, q < 4 → ctb (ub (dl q)) 32 = 8
def aOk (x : aX) (dl : Nat → Int32) (cs : List Nat) : Prop := x.2.1 < 4 ∧ x.2.2.2 < 4 ∧ cs.length ≤ 32 ∧ aDl dl ∧ ∀ j, j < cs.length → aC cs j < 32 ∧ bt (dl (aTn x cs j)) (aC cs j) = true ∧ ∀ i, i < j → aC cs i ≠ aC cs j
theorem aC_mem {cs : List Nat} {c : Nat} (h : c ∈ cs) : ∃ j, j < cs.length ∧ aC cs j = c := by
  obtain ⟨j, hj⟩ := List.getElem?_of_mem h
  refine ⟨j, (List.getElem?_eq_some_iff.mp hj).1, ?_⟩
  unfold aC
  rw [List.getD_eq_getElem?_getD, hj]
  rfl
theorem aC_in {cs : List Nat} {j : Nat} (h : j < cs.length) : aC cs j ∈ cs := by
  unfold aC
  rw [List.getD_eq_getElem?_getD, List.getElem?_eq_getElem h]
  exact List.getElem_mem h
theorem aOk.lt {x : aX} {dl : Nat → Int32} {cs : List Nat} (h : aOk x dl cs) : ∀ c ∈ cs, c < 32 := fun c hc => by
  obtain ⟨j, hj, e⟩ := aC_mem hc
  rw [← e]
  exact (h.2.2.2.2 j hj).1
theorem aOk.add {x : aX} {dl : Nat → Int32} {cs : List Nat} {c : Nat} (h : aOk x dl cs) (hl : cs.length < 32) (hc : c < 32) (hb : bt (aHd dl cs (aTn x cs cs.length)) c = true) : aOk x dl (cs ++ [c]) := by
  obtain ⟨h1, h2, h3, h4, h5⟩ := h
  have hlt : ∀ c ∈ cs, c < 32 := aOk.lt ⟨h1, h2, h3, h4, h5⟩
  rw [bt_aHd hlt hc] at hb
  simp only [Bool.and_eq_true, Bool.not_eq_true', decide_eq_false_iff_not] at hb
  refine ⟨h1, h2, by simp; omega, h4, fun j hj => ?_⟩
  rw [List.length_append, List.length_singleton] at hj
  by_cases e : j < cs.length
  · rw [aC_old e, aTn_old (by omega)]
    obtain ⟨k1, k2, k3⟩ := h5 j e
    exact ⟨k1, k2, fun i hi => by rw [aC_old (by omega)]; exact k3 i hi⟩
  · obtain rfl : j = cs.length := by omega
    rw [aC_new, aTn_old (Nat.le_refl _)]
    refine ⟨hc, hb.1, fun i hi => ?_⟩
    rw [aC_old hi]
    exact fun z => hb.2 (by rw [← z]; exact aC_in hi)
theorem aOk.old {x : aX} {dl : Nat → Int32} {cs : List Nat} {c : Nat} (h : aOk x dl (cs ++ [c])) : aOk x dl cs ∧ c < 32 ∧ bt (dl (aTn x cs cs.length)) c = true ∧ c ∉ cs := by
  obtain ⟨h1, h2, h3, h4, h5⟩ := h
  have hlen : (cs ++ [c]).length = cs.length + 1 := by simp
  refine ⟨⟨h1, h2, by omega, h4, fun j hj => ?_⟩, ?_⟩
  · obtain ⟨k1, k2, k3⟩ := h5 j (by omega)
    rw [aC_old hj] at k1 k2 k3
    rw [aTn_old (by omega)] at k2
    exact ⟨k1, k2, fun i hi => by have := k3 i hi; rw [aC_old (by omega)] at this; exact this⟩
  · obtain ⟨k1, k2, k3⟩ := h5 cs.length (by omega)
    rw [aC_new] at k1 k2 k3
    rw [aTn_old (Nat.le_refl _)] at k2
    refine ⟨k1, k2, fun hm => ?_⟩
    obtain ⟨j, hj, e⟩ := aC_mem hm
    have := k3 j hj
    rw [aC_old hj] at this
    exact this e
theorem aMk_add {cs : List Nat} {c : Nat} (h : ∀ d ∈ cs ++ [c], d < 32) : aMk (cs ++ [c]) = aMk cs ||| fBit (nI c) := by
  refine bt_ext (fun i hi => ?_)
  rw [bt_aMk h i hi, bt_or, bt_aMk (fun d hd => h d (List.mem_append_left _ hd)) i hi, bt_fBit c (h c (by simp)) i hi]
  simp [List.mem_append]
