/-! ===== WHAT STANDS AT EVERY TABLE: a deal is one; what an act must fit; what is kept ===== -/
theorem aSw_inj {f : Nat → Nat} {i j : Nat} (h : ∀ a b, a < 32 → b < 32 → f a = f b → a = b) (hi : i < 32) (hj : j < 32) : ∀ a b, a < 32 → b < 32 → aSw f i j a = aSw f i j b → a = b := by
  intro a b ha hb
  have k1 := h a b ha hb
  have k2 := h i b hi hb
  have k3 := h j b hj hb
  have k4 := h a i ha hi
  have k5 := h a j ha hj
  have k6 := h i j hi hj
  have k7 := h j i hj hi
  unfold aSw
  split <;> split <;> (try split) <;> (try split) <;> intro e <;> (first | omega | (have := k1 e; omega) | (have := k2 e; omega) | (have := k3 e; omega) | (have := k4 e; omega) | (have := k5 e; omega) | (have := k6 e; omega) | (have := k7 e; omega))
theorem aSh_inj (z : Int32) : ∀ n, n ≤ 31 → ∀ a b, a < 32 → b < 32 → (aSh z n).2 a = (aSh z n).2 b → a = b
  | 0, _, _, _, _, _, h => h
  | n + 1, hn, a, b, ha, hb, h => by
    rw [aSh] at h
    exact aSw_inj (aSh_inj z n (by omega)) (by omega) (by have := Nat.mod_lt (ub (fNext (aSh z n).1) / 512) (show 0 < 32 - n by omega); omega) a b ha hb h
theorem deck_lt (z : Int32) {k : Nat} (hk : k < 32) : aDeck z k < 32 := aSh_lt z 31 (Nat.le_refl _) k hk
theorem deck_inj (z : Int32) {a b : Nat} (ha : a < 32) (hb : b < 32) (h : aDeck z a = aDeck z b) : a = b := aSh_inj z 31 (Nat.le_refl _) a b ha hb h
theorem bt_dl {z : Int32} {q c : Nat} (hc : c < 32) : bt (aDl0 z q) c = true ↔ ∃ j, j < 32 ∧ j / 8 = q ∧ aDeck z j = c := by
  rw [bt_aDl0 hc, List.any_eq_true]
  constructor
  · rintro ⟨j, hj, h⟩
    simp only [Bool.and_eq_true, decide_eq_true_eq] at h
    exact ⟨j, List.mem_range.mp hj, h.1, h.2⟩
  · rintro ⟨j, hj, h1, h2⟩
    exact ⟨j, List.mem_range.mpr hj, by simp [h1, h2]⟩
/-- the first n of a player's cards -/
def aDp (z : Int32) (q : Nat) : Nat → Int32
  | 0 => 0
  | n + 1 => aDp z q n ||| fBit (nI (aDeck z (8 * q + n)))
theorem bt_aDp {z : Int32} {q : Nat} (hq : q < 4) {c : Nat} (hc : c < 32) : ∀ n, n ≤ 8 → (bt (aDp z q n) c = true ↔ ∃ k, k < n ∧ aDeck z (8 * q + k) = c)
  | 0, _ => by
    rw [aDp, bt_0]
    exact ⟨fun h => absurd h (by decide), fun ⟨k, hk, _⟩ => absurd hk (Nat.not_lt_zero k)⟩
  | n + 1, hn => by
    rw [aDp, bt_or, bt_fBit _ (deck_lt z (by omega)) c hc, Bool.or_eq_true, bt_aDp hq hc n (by omega), decide_eq_true_eq]
    constructor
    · rintro (⟨k, hk, e⟩ | e)
      · exact ⟨k, by omega, e⟩
      · exact ⟨n, by omega, e.symm⟩
    · rintro ⟨k, hk, e⟩
      by_cases h : k < n
      · exact Or.inl ⟨k, h, e⟩
      · obtain rfl : k = n := by omega
        exact Or.inr e.symm
theorem pop_aDp {z : Int32} {q : Nat} (hq : q < 4) : ∀ n, n ≤ 8 → pop (aDp z q n) = n
  | 0, _ => by
    show pop 0 = 0
    decide +kernel
  | n + 1, hn => by
    rw [aDp, pop_or (deck_lt z (by omega)) ?_, pop_aDp hq n (by omega)]
    cases hb : bt (aDp z q n) (aDeck z (8 * q + n)) with
    | false => rfl
    | true =>
      obtain ⟨k, hk, e⟩ := (bt_aDp hq (deck_lt z (by omega)) n (by omega)).mp hb
      have := deck_inj z (by omega) (by omega) e
      omega
theorem aDl_deal (z : Int32) : aDl (aDl0 z) := by
  refine ⟨fun q r j _ _ hj h1 h2 => ?_, fun q hq => ?_⟩
  · obtain ⟨a, ha, rfl, e1⟩ := (bt_dl hj).mp h1
    obtain ⟨b, hb, rfl, e2⟩ := (bt_dl hj).mp h2
    rw [deck_inj z ha hb (e1.trans e2.symm)]
  · have e : aDl0 z q = aDp z q 8 := bt_ext (fun c hc => by
      rw [Bool.eq_iff_iff, bt_dl hc, bt_aDp hq hc 8 (Nat.le_refl _)]
      constructor
      · rintro ⟨j, hj, h1, h2⟩
        exact ⟨j % 8, Nat.mod_lt _ (by decide), by rw [show 8 * q + j % 8 = j by omega]; exact h2⟩
      · rintro ⟨k, hk, h⟩
        exact ⟨8 * q + k, by omega, by omega, h⟩)
    rw [e]
    exact pop_aDp hq 8 (Nat.le_refl _)
theorem aOk_nil {x : aX} {dl : Nat → Int32} (h1 : x.2.1 < 4) (h2 : x.2.2.2 < 4) (hd : aDl dl) : aOk x dl [] := ⟨h1, h2, Nat.zero_le _, hd, fun j hj => absurd hj (Nat.not_lt_zero j)⟩
/-- bids: what stands at every time -/
def bInv (b : aBd) : Prop := b.1.1 < 4 ∧ b.1.2.1 ≤ 2 ∧ b.1.2.2 ≤ 4 ∧ (∀ n t q, b.2.1 = some (n, t, q) → 4 ≤ n ∧ n ≤ 8 ∧ t < 5 ∧ q < 4 ∧ ∃ d, b.2.2.2 (5 * (q % 2) + t) = some d) ∧ ∀ j d, b.2.2.2 j = some d → d < 4 ∧ (j < 10 → d % 2 = j / 5)
def tInv1 (T : aT) : Prop := T.1.1 = 1 → T.2.1.1.2.2 ≤ 3 ∧ (T.2.1.2.1.isSome = true → T.2.1.1.2.2 ≤ 2) ∧ T.2.2.1.1 = aX0 ∧ T.2.2.1.2.2 = (0, 0, []) ∧ aDl T.2.2.1.2.1
def tInv2 (T : aT) : Prop := T.1.1 = 2 → ∃ n t q d, T.2.1.2.1 = some (n, t, q) ∧ T.2.1.2.2.1 = some d ∧ d < 4 ∧ d % 2 = q % 2 ∧ t < 5 ∧ n ≤ 8 ∧ T.2.2.1.1 = (nI t, T.1.2.2.1, nI T.1.2.2.2, nx d) ∧ T.2.2.1.2.2.1 = 0 ∧ T.2.2.1.2.2.2.1 = 0 ∧ aOkS T.2.2.1 ∧ T.2.2.1.2.2.2.2.length < 32
def tInv (T : aT) : Prop := (T.1.1 ≤ 2 ∧ T.1.2.1 < 4 ∧ T.1.2.2.1 < 4 ∧ T.1.2.2.2 < 3) ∧ bInv T.2.1 ∧ tInv1 T ∧ tInv2 T ∧ (T.2.2.1.2.2.2.2 = [] ∨ aOkS T.2.2.1) ∧ ∀ w, T.2.2.2.1 = some w → w.2.2.2 ≤ 2
/-- what an act must fit, so that it may be done -/
def fit (T : aT) (a : Nat × Int32 × Int32) : Prop :=
  a.1 < 9 ∧ (a.1 = 0 → T.1.1 = 0 ∧ ub a.2.1 < 1000000 ∧ a.2.2 = -1) ∧
  (a.1 = 1 → T.1.1 = 1 ∧ 4 ≤ ub a.2.1 ∧ ub a.2.1 ≤ 8 ∧ ub a.2.2 < 5) ∧
  (a.1 = 2 → T.1.1 = 1 ∧ a.2.1 = -1 ∧ a.2.2 = -1) ∧
  (a.1 = 3 → T.1.1 = 1 ∧ T.2.1.1.2.1 = 0 ∧ a.2.1 = -1 ∧ a.2.2 = -1) ∧
  (a.1 = 4 → T.1.1 = 1 ∧ T.2.1.1.2.1 = 1 ∧ a.2.1 = -1 ∧ a.2.2 = -1) ∧
  (a.1 = 5 → T.1.1 = 2 ∧ ub a.2.1 < 8 ∧ ub a.2.2 < 4 ∧ bt (aAl T.2.2.1.1 T.2.2.1.2.1 T.2.2.1.2.2.2.2) (8 * ub a.2.2 + ub a.2.1) = true) ∧
  (a.1 = 6 → T.1.1 = 2 ∧ ub a.2.1 ≤ 8 - T.2.2.1.2.2.2.2.length / 4 ∧ a.2.2 = -1) ∧
  (a.1 = 7 → T.1.1 = 0 ∧ ub a.2.1 < 4 ∧ a.2.2 = -1) ∧
  (a.1 = 8 → T.1.1 = 0 ∧ ub a.2.1 < 3 ∧ a.2.2 = -1)
theorem fit_ok {T : aT} {a : Nat × Int32 × Int32} (h : tInv T) (k : fit T a) : okAct T a := by
  obtain ⟨⟨p1, p2, p3, p4⟩, ⟨b1, b2, b3, b4, b5⟩, i1, i2, i3, i4⟩ := h
  obtain ⟨f, f0, f1, f2, f3, f4, f5, f6, f7, f8⟩ := k
  refine ⟨f, fun z => ⟨b1, (f1 z).2.2.2, fun j d hd => (b5 j d hd).1⟩, fun z => ?_, fun _ => b1, fun z => ?_, fun z => ?_⟩
  · obtain ⟨c1, c2, c3, c4, c5⟩ := i1 (f2 z).1
    refine ⟨p2, b1, by omega, c4, fun w hw => ?_⟩
    obtain ⟨n, t, q⟩ := w
    obtain ⟨d1, d2, d3, d4, d, d5⟩ := b4 n t q hw
    exact ⟨by show n < 100; omega, d3, d, (b5 _ d d5).1, d5⟩
  · obtain ⟨g1, g2, g3, g4⟩ := f5 z
    obtain ⟨n, t, q, d, c1, -, -, -, -, -, -, -, -, c8, c9⟩ := i2 g1
    exact ⟨p2, by rw [c1]; rfl, c8, c9, by omega, aAl_sub g4⟩
  · obtain ⟨g1, g2, -⟩ := f6 z
    obtain ⟨n, t, q, d, c1, -, -, -, -, -, -, -, -, c8, c9⟩ := i2 g1
    exact ⟨p2, by rw [c1]; rfl, c9, g2⟩
theorem nx_lt {p : Nat} : nx p < 4 := Nat.mod_lt _ (by decide)
theorem bInv_0 {d : Nat} (h : d < 4) : bInv (bd0 d) := ⟨h, Nat.zero_le _, Nat.zero_le _, fun n t q z => (by have z' : (none : Option (Nat × Nat × Nat)) = some (n, t, q) := z; cases z'), fun j d' z => (by have z' : (none : Option Nat) = some d' := z; cases z')⟩
theorem tInv_0 : tInv tb0 := ⟨⟨by decide, by decide, by decide, by decide⟩, bInv_0 (by decide), fun z => absurd z (by decide), fun z => absurd z (by decide), Or.inl rfl, fun _ z => by cases z⟩
theorem bInv_bid {b : aBd} {n t : Nat} (h : bInv b) (h1 : 4 ≤ n) (h2 : n ≤ 8) (h3 : t < 5) : bInv (bBid b n t) := by
  obtain ⟨b1, b2, b3, b4, b5⟩ := h
  have hb1 := b1
  refine ⟨nx_lt, Nat.zero_le _, Nat.zero_le _, fun n' t' q' e => ?_, fun j d e => ?_⟩
  · have e' : some (n, t, b.1.1) = some (n', t', q') := e
    cases e'
    refine ⟨h1, h2, h3, hb1, ?_⟩
    show ∃ d, (if 5 * (b.1.1 % 2) + t = 5 * (b.1.1 % 2) + t ∧ b.2.2.2 (5 * (b.1.1 % 2) + t) = none then some b.1.1 else b.2.2.2 (5 * (b.1.1 % 2) + t)) = some d
    cases hq : b.2.2.2 (5 * (b.1.1 % 2) + t) with
    | none => exact ⟨_, if_pos ⟨rfl, rfl⟩⟩
    | some d => exact ⟨d, if_neg (fun z => by cases z.2)⟩
  · have e' : (if j = 5 * (b.1.1 % 2) + t ∧ b.2.2.2 j = none then some b.1.1 else b.2.2.2 j) = some d := e
    split at e'
    · rename_i c
      cases e'
      exact ⟨b1, fun _ => by omega⟩
    · exact b5 j d e'
theorem bInv_pass {b : aBd} (h : bInv b) (h3 : b.1.2.2 ≤ 3) : bInv (bPass b) := by
  obtain ⟨b1, b2, b3, b4, b5⟩ := h
  exact ⟨nx_lt, b2, by show b.1.2.2 + 1 ≤ 4; omega, b4, b5⟩
theorem bInv_dbl {b : aBd} (h : bInv b) (h3 : b.1.2.1 ≤ 1) : bInv (bDbl b) := by
  obtain ⟨b1, b2, b3, b4, b5⟩ := h
  exact ⟨nx_lt, by show b.1.2.1 + 1 ≤ 2; omega, Nat.zero_le _, b4, b5⟩
theorem sSet_d {s : aSc} {b : aBd} {m : Nat} (h : ∀ w, s.1 = some w → w.2.2.2 ≤ 2) (hb : b.1.2.1 ≤ 2) : ∀ w, (sSet s b m).1 = some w → w.2.2.2 ≤ 2 := by
  intro w
  unfold sSet
  split
  · exact h w
  · intro e
    cases e
    exact hb
theorem tInv_set {T : aT} (h : tInv T) (hp : T.2.2.1.2.2.2.2 = [] ∨ aOkS T.2.2.1) : tInv (tSet T) := by
  obtain ⟨⟨p1, p2, p3, p4⟩, hb, i1, i2, i3, i4⟩ := h
  exact ⟨⟨Nat.zero_le _, nx_lt, p3, p4⟩, hb, fun z => absurd (show (0 : Nat) = 1 from z) (by decide), fun z => absurd (show (0 : Nat) = 2 from z) (by decide), hp, sSet_d i4 hb.2.1⟩
theorem tInv_step {T : aT} {a : Nat × Int32 × Int32} (h : tInv T) (k : fit T a) : tInv (tStep T a) := by
  have hh := h
  obtain ⟨⟨p1, p2, p3, p4⟩, hb, i1, i2, i3, i4⟩ := h
  obtain ⟨f, f0, f1, f2, f3, f4, f5, f6, f7, f8⟩ := k
  obtain ⟨w, y, s⟩ := a
  dsimp only at f f0 f1 f2 f3 f4 f5 f6 f7 f8
  rcases (by omega : w = 0 ∨ w = 1 ∨ w = 2 ∨ w = 3 ∨ w = 4 ∨ w = 5 ∨ w = 6 ∨ w = 7 ∨ w = 8) with rfl | rfl | rfl | rfl | rfl | rfl | rfl | rfl | rfl
  · exact ⟨⟨(by decide : 1 ≤ 2), p2, p3, p4⟩, bInv_0 p2, fun _ => ⟨Nat.zero_le _, fun _ => Nat.zero_le _, rfl, rfl, aDl_deal y⟩, fun z => absurd (show (1 : Nat) = 2 from z) (by decide), Or.inl rfl, i4⟩
  · obtain ⟨g1, g2, g3, g4⟩ := f1 rfl
    obtain ⟨c1, c2, c3, c4, c5⟩ := i1 g1
    refine ⟨⟨p1, p2, p3, p4⟩, bInv_bid hb g2 g3 g4, fun _ => ⟨Nat.zero_le _, fun _ => Nat.zero_le _, c3, c4, c5⟩, fun z => ?_, i3, i4⟩
    have z' : T.1.1 = 2 := z
    omega
  · obtain ⟨g1, -, -⟩ := f2 rfl
    obtain ⟨c1, c2, c3, c4, c5⟩ := i1 g1
    have hbp := bInv_pass hb c1
    have hpl : T.2.2.1.2.2.2.2 = [] := by rw [c4]
    show tInv (tPass T)
    cases ho : T.2.1.2.1 with
    | none =>
      rw [tPass_none ho]
      split
      · exact ⟨⟨Nat.zero_le _, nx_lt, p3, p4⟩, hbp, fun z => absurd (show (0 : Nat) = 1 from z) (by decide), fun z => absurd (show (0 : Nat) = 2 from z) (by decide), Or.inl hpl, i4⟩
      · rename_i hn
        refine ⟨⟨p1, p2, p3, p4⟩, hbp, fun _ => ⟨by show T.2.1.1.2.2 + 1 ≤ 3; omega, fun z => ?_, c3, c4, c5⟩, fun z => ?_, Or.inl hpl, i4⟩
        · have z' : T.2.1.2.1.isSome = true := z
          rw [ho] at z'
          cases z'
        · have z' : T.1.1 = 2 := z
          omega
    | some v =>
      obtain ⟨n, t, q⟩ := v
      have c2' := c2 (by rw [ho]; rfl)
      obtain ⟨d1, d2, d3, d4, d, d5⟩ := hb.2.2.2.1 n t q ho
      have d6 := hb.2.2.2.2 _ d d5
      by_cases hn : 3 ≤ T.2.1.1.2.2 + 1
      · have e : tPass T = ((2, T.1.2), ((bPass T.2.1).1, (bPass T.2.1).2.1, T.2.1.2.2.2 (5 * (q % 2) + t), T.2.1.2.2.2), ((nI t, T.1.2.2.1, nI T.1.2.2.2, nx ((T.2.1.2.2.2 (5 * (q % 2) + t)).getD 0)), T.2.2.1.2.1, 0, 0, []), T.2.2.2) := by
          unfold tPass
          have ho2 : (bPass T.2.1).2.1 = some (n, t, q) := ho
          rw [ho2]
          exact if_pos hn
        rw [e, d5]
        refine ⟨⟨(by decide : 2 ≤ 2), p2, p3, p4⟩, hbp, fun z => absurd (show (2 : Nat) = 1 from z) (by decide), fun _ => ⟨n, t, q, d, ho, rfl, d6.1, by have := d6.2 (by omega); omega, d3, d2, rfl, rfl, rfl, aOk_nil p3 nx_lt c5, (by decide : (0 : Nat) < 32)⟩, Or.inl rfl, i4⟩
      · rw [tPass_few ho hn]
        refine ⟨⟨p1, p2, p3, p4⟩, hbp, fun _ => ⟨by show T.2.1.1.2.2 + 1 ≤ 3; omega, fun z => by show T.2.1.1.2.2 + 1 ≤ 2; omega, c3, c4, c5⟩, fun z => ?_, Or.inl hpl, i4⟩
        have z' : T.1.1 = 2 := z
        omega
  · obtain ⟨g1, g2, -, -⟩ := f3 rfl
    obtain ⟨c1, c2, c3, c4, c5⟩ := i1 g1
    refine ⟨⟨p1, p2, p3, p4⟩, bInv_dbl hb (by omega), fun _ => ⟨Nat.zero_le _, fun _ => Nat.zero_le _, c3, c4, c5⟩, fun z => ?_, i3, i4⟩
    have z' : T.1.1 = 2 := z
    omega
  · obtain ⟨g1, g2, -, -⟩ := f4 rfl
    obtain ⟨c1, c2, c3, c4, c5⟩ := i1 g1
    refine ⟨⟨p1, p2, p3, p4⟩, bInv_dbl hb (by omega), fun _ => ⟨Nat.zero_le _, fun _ => Nat.zero_le _, c3, c4, c5⟩, fun z => ?_, i3, i4⟩
    have z' : T.1.1 = 2 := z
    omega
  · obtain ⟨g1, g2, g3, g4⟩ := f5 rfl
    obtain ⟨n, t, q, d, c1, c2, c3, c3', c3'', c3n, c4, c5, c6, c7, c8⟩ := i2 g1
    have hok : aOk T.2.2.1.1 T.2.2.1.2.1 (T.2.2.1.2.2.2.2 ++ [8 * ub s + ub y]) := al_ok c7 c8 (by omega) g4
    show tInv (tPlay T (8 * ub s + ub y))
    have hk : tInv (T.1, T.2.1, pAdd T.2.2.1 (8 * ub s + ub y), T.2.2.2) ∨ T.2.2.1.2.2.2.2.length + 1 = 32 := by
      by_cases e : T.2.2.1.2.2.2.2.length + 1 = 32
      · exact Or.inr e
      · refine Or.inl ⟨⟨p1, p2, p3, p4⟩, hb, fun z => ?_, fun _ => ⟨n, t, q, d, c1, c2, c3, c3', c3'', c3n, c4, c5, c6, hok, ?_⟩, Or.inr hok, i4⟩
        · have z' : T.1.1 = 1 := z
          omega
        · show (T.2.2.1.2.2.2.2 ++ [8 * ub s + ub y]).length < 32
          rw [List.length_append, List.length_singleton]
          omega
    unfold tPlay
    split
    · exact ⟨⟨Nat.zero_le _, nx_lt, p3, p4⟩, hb, fun z => absurd (show (0 : Nat) = 1 from z) (by decide), fun z => absurd (show (0 : Nat) = 2 from z) (by decide), Or.inr hok, sSet_d i4 hb.2.1⟩
    · rename_i e
      exact hk.resolve_right e
  · obtain ⟨g1, g2, -⟩ := f6 rfl
    obtain ⟨n, t, q, d, c1, c2, c3, c3', c3'', c3n, c4, c5, c6, c7, c8⟩ := i2 g1
    exact ⟨⟨Nat.zero_le _, nx_lt, p3, p4⟩, hb, fun z => absurd (show (0 : Nat) = 1 from z) (by decide), fun z => absurd (show (0 : Nat) = 2 from z) (by decide), Or.inr c7, sSet_d i4 hb.2.1⟩
  · obtain ⟨g1, g2, -⟩ := f7 rfl
    refine ⟨⟨p1, p2, g2, p4⟩, hb, fun z => ?_, fun z => ?_, i3, i4⟩
    · have z' : T.1.1 = 1 := z
      omega
    · have z' : T.1.1 = 2 := z
      omega
  · obtain ⟨g1, g2, -⟩ := f8 rfl
    refine ⟨⟨p1, p2, p3, g2⟩, hb, fun z => ?_, fun z => ?_, i3, i4⟩
    · have z' : T.1.1 = 1 := z
      omega
    · have z' : T.1.1 = 2 := z
      omega
/-- every act of a log fits where it stands -/
def okL : List (Nat × Int32 × Int32) → aT → Prop
  | [], _ => True
  | a :: l, T => fit T a ∧ okL l (tStep T a)
theorem okL_inv : ∀ {l : List (Nat × Int32 × Int32)} {T : aT}, tInv T → okL l T → tInv (tFold l T)
  | [], _, h, _ => h
  | a :: l, T, h, k => okL_inv (l := l) (T := tStep T a) (tInv_step h k.1) k.2
theorem tFold_add {a : Nat × Int32 × Int32} : ∀ {l : List (Nat × Int32 × Int32)} {T : aT}, tFold (l ++ [a]) T = tStep (tFold l T) a
  | [], _ => rfl
  | b :: l, T => tFold_add (l := l) (T := tStep T b)
theorem okL_add {a : Nat × Int32 × Int32} : ∀ {l : List (Nat × Int32 × Int32)} {T : aT}, okL l T → fit (tFold l T) a → okL (l ++ [a]) T
  | [], _, _, k => ⟨k, trivial⟩
  | b :: l, T, h, k => ⟨h.1, okL_add (l := l) (T := tStep T b) h.2 k⟩
theorem okL_take : ∀ {l : List (Nat × Int32 × Int32)} {T : aT} (n : Nat), okL l T → okL (l.take n) T
  | [], _, n, _ => by rw [List.take_nil]; exact trivial
  | a :: l, T, 0, _ => trivial
  | a :: l, T, n + 1, h => ⟨h.1, okL_take (l := l) (T := tStep T a) n h.2⟩
