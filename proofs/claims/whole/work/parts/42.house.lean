/-! ===== THE HOUSE: tape, log, image, sheets; how the class holds it ===== -/
abbrev aA : Type := Nat × Int32 × Int32
/-- an act of the log, and by whom -/
abbrev aE : Type := aA × Int32
/-- sort (-1 missing, 0 bytes, 1 ints), size, items -/
abbrev aSheet : Type := Int32 × Nat × (Nat → Int32)
/-- tape, log, image, sheets -/
abbrev aZ : Type := List Int32 × List aE × Option (List aE) × (Nat → aSheet)
def lA (l : List aE) : List aA := l.map fun e => e.1
/-- the table that a log makes -/
def zT (l : List aE) : aT := tFold (lA l) tb0
def eA (l : List aE) (i : Nat) : aE := l.getD i ((0, 0, 0), 0)
/-- what the class holds of an item -/
def shC (sort v : Int32) : Int32 := if sort = 0 then v &&& nI 255 else v
def RpTp (M : mM) (t : List Int32) : Prop := M 1 1 = nI t.length ∧ ∀ j, j < t.length → M 2 j = t.getD j 0
def RpL (c : Nat) (M : mM) (l : List aE) : Prop := M c 4 = nI l.length ∧ ∀ i, i < l.length → M (c + 1) i = nI (eA l i).1.1 ∧ M (c + 2) i = (eA l i).1.2.1 ∧ M (c + 3) i = (eA l i).1.2.2 ∧ M (c + 4) i = (eA l i).2
def RpI (M : mM) (im : Option (List aE)) : Prop := M 0 7 = (if im.isSome then 1 else 0) ∧ ∀ l, im = some l → RpL 8 M l
def RpSh1 (M : mM) (k : Nat) (s : aSheet) : Prop := M (40 + 2 * k) 1 = s.1 ∧ M (40 + 2 * k) 2 = nI s.2.1 ∧ ∀ j, j < s.2.1 → M (41 + 2 * k) j = shC s.1 (s.2.2 j)
def RpSh (M : mM) (S : Nat → aSheet) : Prop := ∀ k, k < 4 → RpSh1 M k (S k)
/-- the line: coder 0, at most 16 bytes -/
def RpLn (M : mM) : Prop := M 48 1 = 0 ∧ ∃ n, n ≤ 16 ∧ M 48 3 = nI n
def RpC (M : mM) (z : aZ) : Prop := RpTp M z.1 ∧ RpL 3 M z.2.1 ∧ RpI M z.2.2.1 ∧ RpT 13 M (zT z.2.1) ∧ RpSh M z.2.2.2 ∧ RpLn M
def FrC (M M' : mM) : Prop := ∀ c, 50 ≤ c → M' c = M c
theorem FrC.refl {M : mM} : FrC M M := fun _ _ => rfl
theorem FrC.trans {M M1 M2 : mM} (h : FrC M M1) (k : FrC M1 M2) : FrC M M2 := fun c hc => (k c hc).trans (h c hc)
def lInv (l : List aE) : Prop := l.length ≤ 90 ∧ okL (lA l) tb0
def sInv (s : aSheet) : Prop := (s.1 = -1 ∨ s.1 = 0 ∨ s.1 = 1) ∧ s.2.1 ≤ 40 ∧ (s.1 = 0 → ∀ j, j < s.2.1 → -128 ≤ (s.2.2 j).toInt ∧ (s.2.2 j).toInt ≤ 127)
def zInv (z : aZ) : Prop := (z.1.length ≤ 40 ∧ ∀ b ∈ z.1, 0 ≤ b.toInt ∧ b.toInt ≤ 255) ∧ lInv z.2.1 ∧ (∀ l, z.2.2.1 = some l → lInv l) ∧ ∀ k, k < 4 → sInv (z.2.2.2 k)
theorem zInv.T {z : aZ} (h : zInv z) : tInv (zT z.2.1) := okL_inv tInv_0 h.2.1.2
theorem RpL_fr {c : Nat} {M M' : mM} {l : List aE} (h : RpL c M l) (e : ∀ k, k < 5 → M' (c + k) = M (c + k)) : RpL c M' l := by
  unfold RpL
  rw [show M' c = M c from e 0 (by decide), e 1 (by decide), e 2 (by decide), e 3 (by decide), e 4 (by decide)]
  exact h
theorem RpT_fr {t : Nat} {M M' : mM} {T : aT} (h : RpT t M T) (e : ∀ k, k < 13 → M' (t + k) = M (t + k)) : RpT t M' T := by
  obtain ⟨h1, h2, h3, h4⟩ := h
  refine ⟨by rw [show M' t = M t from e 0 (by decide)]; exact h1, RpB_fr h2 (e 1 (by decide)) (e 2 (by decide)), RpS_fr h3 (fun k hk => ?_), RpSc_fr h4 (e 11 (by decide)) (e 12 (by decide))⟩
  have := e (3 + k) (by omega)
  rw [Nat.add_assoc]
  exact this
theorem RpSh_fr {M M' : mM} {S : Nat → aSheet} (h : RpSh M S) (e : ∀ c, 40 ≤ c → c < 48 → M' c = M c) : RpSh M' S := by
  intro k hk
  unfold RpSh1
  rw [e (40 + 2 * k) (by omega) (by omega), e (41 + 2 * k) (by omega) (by omega)]
  exact h k hk
/-- only the thought table (and what the reference has) has changed -/
theorem RpC_fr {M M' : mM} {z : aZ} (h : RpC M z) (e : ∀ c, (c < 26 ∨ 38 < c) → c < 50 → M' c = M c) : RpC M' z := by
  obtain ⟨h1, h2, h3, h4, h5, h6⟩ := h
  refine ⟨?_, RpL_fr h2 (fun k hk => e _ (by omega) (by omega)), ⟨?_, fun l hl => RpL_fr (h3.2 l hl) (fun k hk => e _ (by omega) (by omega))⟩, RpT_fr h4 (fun k hk => e _ (by omega) (by omega)), RpSh_fr h5 (fun c h1 h2 => e c (by omega) (by omega)), ?_⟩
  · unfold RpTp
    rw [e 1 (by omega) (by omega), e 2 (by omega) (by omega)]
    exact h1
  · rw [e 0 (by omega) (by omega)]
    exact h3.1
  · unfold RpLn
    rw [e 48 (by omega) (by omega)]
    exact h6
/-! ranges -/
def ix (x : Int32) (n : Nat) : Option Nat := if 0 ≤ x ∧ x < nI n then some (ub x) else none
theorem ix_at {j n : Nat} (h : j < n) (hn : n < 2 ^ 31) : ix (nI j) n = some j := by
  unfold ix
  rw [if_pos ⟨nI_pos' (by omega), nI_lt h hn⟩, ub_nI (by omega)]
theorem ix_no {x : Int32} {n : Nat} (h : x < 0 ∨ nI n ≤ x) : ix x n = none := by
  unfold ix
  refine if_neg (fun z => ?_)
  rcases h with h | h
  · exact absurd z.1 (Int32.not_le.mpr h)
  · exact absurd z.2 (Int32.not_lt.mpr h)
theorem ix_cs (x : Int32) {n : Nat} (hn : n < 2 ^ 31) : ((x < 0 ∨ nI n ≤ x) ∧ ix x n = none) ∨ ∃ j, j < n ∧ x = nI j ∧ ix x n = some j := by
  rcases pk_ix x hn with h | h | ⟨j, hj, rfl⟩
  · exact Or.inl ⟨Or.inl h, ix_no (Or.inl h)⟩
  · exact Or.inl ⟨Or.inr h, ix_no (Or.inr h)⟩
  · exact Or.inr ⟨j, hj, rfl, ix_at hj hn⟩
theorem mb_congr {p q : Prop} [Decidable p] [Decidable q] (h : p ↔ q) : mb p = mb q := by
  by_cases hp : p
  · rw [mb_t hp, mb_t (h.mp hp)]
  · rw [mb_f hp, mb_f (fun w => hp (h.mpr w))]
theorem fIn_ix {x : Int32} {n : Nat} (hn : n + 1 < 2 ^ 31) : fIn x (nI 0) (nI n) = mb ((ix x (n + 1)).isSome = true) := by
  unfold fIn
  refine mb_congr ?_
  rcases ix_cs x (n := n + 1) hn with ⟨h, e⟩ | ⟨j, hj, rfl, e⟩
  · rw [e]
    refine ⟨fun w => ?_, fun w => by cases w⟩
    exfalso
    rcases h with h | h
    · exact absurd w.1 (Int32.not_le.mpr h)
    · have := Int32.le_trans h w.2
      exact absurd ((nI_leI (by omega) (by omega)).mp this) (by omega)
  · rw [e]
    exact ⟨fun _ => rfl, fun _ => ⟨nI_pos' (by omega), nI_le (by omega) (by omega)⟩⟩
/-! public methods of the class: from a state that stands for z to one that stands for what F says -/
def pub (k : Nat) (F : aZ → List Int32 → Int32 × aZ) : mG → mT := mRi (fun (q : aZ × List Int32) as M => as = .inr (some 0) :: q.2.map (fun x => (.inl x : mV)) ∧ q.2.length = k ∧ RpC M q.1 ∧ zInv q.1) (fun q _ M v M' => v = (F q.1 q.2).1 ∧ RpC M' (F q.1 q.2).2 ∧ FrC M M')
theorem pub_mono {k : Nat} {F : aZ → List Int32 → Int32 × aZ} : mMn (pub k F) := mRi_mono
theorem pub_recv {k : Nat} {F : aZ → List Int32 → Int32 × aZ} {y : MethodName} (hy : y.cls = RX7) : mHasR y k (pub k F) := by
  intro g as M P hT hl
  obtain ⟨q, ⟨h1, -⟩, -⟩ := hT
  exact ⟨_, _, h1, by rw [hy]; exact is_X7 g 0 rfl⟩
abbrev pubP (M : mM) (P : mP) (q : Int32 × aZ) : Prop := ∀ v M', v = q.1 → RpC M' q.2 → FrC M M' → P (some (.inl v)) M'
theorem runC0 {maxL : Nat} {F : aZ → List Int32 → Int32 × aZ} {f : mG → mF} (hn : 1 ≤ maxL) (h : ∀ (g : mG) (M : mM) (P : mP) (z : aZ), RpC M z → zInv z → pubP M P (F z []) → mRun (mSx g) (f g) P (0, [some (.inr (some 0))] ++ List.replicate (maxL - 1) none, [], M)) : mRunOf maxL (pub 0 F) f := fun g as M P hT => by
  obtain ⟨⟨z, l⟩, ⟨rfl, h2, h3, h4⟩, hP⟩ := hT
  dsimp only at h2
  match l, h2 with
  | [], _ => exact ⟨hn, h g M P z h3 h4 (fun v M' a b c => hP v M' ⟨a, b, c⟩)⟩
theorem runC1 {maxL : Nat} {F : aZ → List Int32 → Int32 × aZ} {f : mG → mF} (hn : 2 ≤ maxL) (h : ∀ (g : mG) (M : mM) (P : mP) (z : aZ) (x : Int32), RpC M z → zInv z → pubP M P (F z [x]) → mRun (mSx g) (f g) P (0, [some (.inr (some 0)), some (.inl x)] ++ List.replicate (maxL - 2) none, [], M)) : mRunOf maxL (pub 1 F) f := fun g as M P hT => by
  obtain ⟨⟨z, l⟩, ⟨rfl, h2, h3, h4⟩, hP⟩ := hT
  dsimp only at h2
  match l, h2 with
  | [x], _ => exact ⟨hn, h g M P z x h3 h4 (fun v M' a b c => hP v M' ⟨a, b, c⟩)⟩
theorem runC2 {maxL : Nat} {F : aZ → List Int32 → Int32 × aZ} {f : mG → mF} (hn : 3 ≤ maxL) (h : ∀ (g : mG) (M : mM) (P : mP) (z : aZ) (x y : Int32), RpC M z → zInv z → pubP M P (F z [x, y]) → mRun (mSx g) (f g) P (0, [some (.inr (some 0)), some (.inl x), some (.inl y)] ++ List.replicate (maxL - 3) none, [], M)) : mRunOf maxL (pub 2 F) f := fun g as M P hT => by
  obtain ⟨⟨z, l⟩, ⟨rfl, h2, h3, h4⟩, hP⟩ := hT
  dsimp only at h2
  match l, h2 with
  | [x, y], _ => exact ⟨hn, h g M P z x y h3 h4 (fun v M' a b c => hP v M' ⟨a, b, c⟩)⟩
theorem runC3 {maxL : Nat} {F : aZ → List Int32 → Int32 × aZ} {f : mG → mF} (hn : 4 ≤ maxL) (h : ∀ (g : mG) (M : mM) (P : mP) (z : aZ) (x y u : Int32), RpC M z → zInv z → pubP M P (F z [x, y, u]) → mRun (mSx g) (f g) P (0, [some (.inr (some 0)), some (.inl x), some (.inl y), some (.inl u)] ++ List.replicate (maxL - 4) none, [], M)) : mRunOf maxL (pub 3 F) f := fun g as M P hT => by
  obtain ⟨⟨z, l⟩, ⟨rfl, h2, h3, h4⟩, hP⟩ := hT
  dsimp only at h2
  match l, h2 with
  | [x, y, u], _ => exact ⟨hn, h g M P z x y u h3 h4 (fun v M' a b c => hP v M' ⟨a, b, c⟩)⟩
theorem runC5 {maxL : Nat} {F : aZ → List Int32 → Int32 × aZ} {f : mG → mF} (hn : 6 ≤ maxL) (h : ∀ (g : mG) (M : mM) (P : mP) (z : aZ) (x y u v w : Int32), RpC M z → zInv z → pubP M P (F z [x, y, u, v, w]) → mRun (mSx g) (f g) P (0, [some (.inr (some 0)), some (.inl x), some (.inl y), some (.inl u), some (.inl v), some (.inl w)] ++ List.replicate (maxL - 6) none, [], M)) : mRunOf maxL (pub 5 F) f := fun g as M P hT => by
  obtain ⟨⟨z, l⟩, ⟨rfl, h2, h3, h4⟩, hP⟩ := hT
  dsimp only at h2
  match l, h2 with
  | [x, y, u, v, w], _ => exact ⟨hn, h g M P z x y u v w h3 h4 (fun v M' a b c => hP v M' ⟨a, b, c⟩)⟩
theorem runC6 {maxL : Nat} {F : aZ → List Int32 → Int32 × aZ} {f : mG → mF} (hn : 7 ≤ maxL) (h : ∀ (g : mG) (M : mM) (P : mP) (z : aZ) (x y u v w t : Int32), RpC M z → zInv z → pubP M P (F z [x, y, u, v, w, t]) → mRun (mSx g) (f g) P (0, [some (.inr (some 0)), some (.inl x), some (.inl y), some (.inl u), some (.inl v), some (.inl w), some (.inl t)] ++ List.replicate (maxL - 7) none, [], M)) : mRunOf maxL (pub 6 F) f := fun g as M P hT => by
  obtain ⟨⟨z, l⟩, ⟨rfl, h2, h3, h4⟩, hP⟩ := hT
  dsimp only at h2
  match l, h2 with
  | [x, y, u, v, w, t], _ => exact ⟨hn, h g M P z x y u v w t h3 h4 (fun v M' a b c => hP v M' ⟨a, b, c⟩)⟩
