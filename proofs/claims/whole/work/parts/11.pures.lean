/-! ===== SPECIFICATIONS OF THE SMALL FUNCTIONS ===== -/
def mb (p : Prop) [Decidable p] : Int32 := if p then 1 else 0
theorem mb_t {p : Prop} [Decidable p] (h : p) : mb p = 1 := if_pos h
theorem mb_f {p : Prop} [Decidable p] (h : ¬ p) : mb p = 0 := if_neg h
theorem mb_0 {p : Prop} [Decidable p] : mb p = 0 ↔ ¬ p := by
  unfold mb
  split <;> simp_all
theorem mb_1 {p : Prop} [Decidable p] : mb p = 1 ↔ p := by
  unfold mb
  split <;> simp_all
theorem mb_01 {p : Prop} [Decidable p] : mb p = 0 ∨ mb p = 1 := by
  unfold mb
  split
  · exact Or.inr rfl
  · exact Or.inl rfl
theorem b01 : nI 1 = 0 ∨ nI 1 = 1 := Or.inr rfl
theorem b00 : nI 0 = 0 ∨ nI 0 = 1 := Or.inl rfl
theorem nI1 : nI 1 = 1 := rfl
def aAt (f : Nat → Int32) (n : Nat) (i : Int32) : Int32 := if 0 ≤ i ∧ i < nI n then f i.toNatClampNeg else 0
def aSet (f : Nat → Int32) (n : Nat) (i v : Int32) : Nat → Int32 := if 0 ≤ i ∧ i < nI n then upd f i.toNatClampNeg v else f
def aFill (f : Nat → Int32) (n : Nat) (v : Int32) : Nat → Int32 := fun j => if j < n then v else f j
/-- pure functions of ints -/
def mP1 (F : Int32 → Int32) : mG → mT := fun _ as M P => match as with
  | [.inl x] => P (some (.inl (F x))) M
  | _ => False
def mP2 (F : Int32 → Int32 → Int32) : mG → mT := fun _ as M P => match as with
  | [.inl x, .inl y] => P (some (.inl (F x y))) M
  | _ => False
def mP3 (F : Int32 → Int32 → Int32 → Int32) : mG → mT := fun _ as M P => match as with
  | [.inl x, .inl y, .inl z] => P (some (.inl (F x y z))) M
  | _ => False
def mP4 (F : Int32 → Int32 → Int32 → Int32 → Int32) : mG → mT := fun _ as M P => match as with
  | [.inl x, .inl y, .inl z, .inl u] => P (some (.inl (F x y z u))) M
  | _ => False
def mP5 (F : Int32 → Int32 → Int32 → Int32 → Int32 → Int32) : mG → mT := fun _ as M P => match as with
  | [.inl x, .inl y, .inl z, .inl u, .inl w] => P (some (.inl (F x y z u w))) M
  | _ => False
theorem mP1_mono {F : Int32 → Int32} : mMn (mP1 F) := fun _ _ _ _ _ h k => by
  unfold mP1 at k ⊢
  split at k
  · exact h _ _ k
  · exact k
theorem mP2_mono {F : Int32 → Int32 → Int32} : mMn (mP2 F) := fun _ _ _ _ _ h k => by
  unfold mP2 at k ⊢
  split at k
  · exact h _ _ k
  · exact k
theorem mP3_mono {F : Int32 → Int32 → Int32 → Int32} : mMn (mP3 F) := fun _ _ _ _ _ h k => by
  unfold mP3 at k ⊢
  split at k
  · exact h _ _ k
  · exact k
theorem mP4_mono {F : Int32 → Int32 → Int32 → Int32 → Int32} : mMn (mP4 F) := fun _ _ _ _ _ h k => by
  unfold mP4 at k ⊢
  split at k
  · exact h _ _ k
  · exact k
theorem mP5_mono {F : Int32 → Int32 → Int32 → Int32 → Int32 → Int32} : mMn (mP5 F) := fun _ _ _ _ _ h k => by
  unfold mP5 at k ⊢
  split at k
  · exact h _ _ k
  · exact k
def mRunOf (maxL : Nat) (T : mG → mT) (F : mG → mF) : Prop := ∀ (g : mG) (as : List mV) (M : mM) (P : mP), T g as M P → as.length ≤ maxL ∧ mRun (mSx g) (F g) P (0, as.map some ++ List.replicate (maxL - as.length) none, [], M)
theorem runP1 {maxL : Nat} {G : Int32 → Int32} {F : mG → mF} (hn : 1 ≤ maxL) (h : ∀ (g : mG) (M : mM) (P : mP) (x : Int32), P (some (.inl (G x))) M → mRun (mSx g) (F g) P (0, [some (.inl x)] ++ List.replicate (maxL - 1) none, [], M)) : mRunOf maxL (mP1 G) F := fun g as M P hT => by
  unfold mP1 at hT
  split at hT
  · exact ⟨hn, h g M P _ hT⟩
  · exact hT.elim
theorem runP2 {maxL : Nat} {G : Int32 → Int32 → Int32} {F : mG → mF} (hn : 2 ≤ maxL) (h : ∀ (g : mG) (M : mM) (P : mP) (x y : Int32), P (some (.inl (G x y))) M → mRun (mSx g) (F g) P (0, [some (.inl x), some (.inl y)] ++ List.replicate (maxL - 2) none, [], M)) : mRunOf maxL (mP2 G) F := fun g as M P hT => by
  unfold mP2 at hT
  split at hT
  · exact ⟨hn, h g M P _ _ hT⟩
  · exact hT.elim
theorem runP3 {maxL : Nat} {G : Int32 → Int32 → Int32 → Int32} {F : mG → mF} (hn : 3 ≤ maxL) (h : ∀ (g : mG) (M : mM) (P : mP) (x y z : Int32), P (some (.inl (G x y z))) M → mRun (mSx g) (F g) P (0, [some (.inl x), some (.inl y), some (.inl z)] ++ List.replicate (maxL - 3) none, [], M)) : mRunOf maxL (mP3 G) F := fun g as M P hT => by
  unfold mP3 at hT
  split at hT
  · exact ⟨hn, h g M P _ _ _ hT⟩
  · exact hT.elim
theorem runP4 {maxL : Nat} {G : Int32 → Int32 → Int32 → Int32 → Int32} {F : mG → mF} (hn : 4 ≤ maxL) (h : ∀ (g : mG) (M : mM) (P : mP) (x y z u : Int32), P (some (.inl (G x y z u))) M → mRun (mSx g) (F g) P (0, [some (.inl x), some (.inl y), some (.inl z), some (.inl u)] ++ List.replicate (maxL - 4) none, [], M)) : mRunOf maxL (mP4 G) F := fun g as M P hT => by
  unfold mP4 at hT
  split at hT
  · exact ⟨hn, h g M P _ _ _ _ hT⟩
  · exact hT.elim
theorem runP5 {maxL : Nat} {G : Int32 → Int32 → Int32 → Int32 → Int32 → Int32} {F : mG → mF} (hn : 5 ≤ maxL) (h : ∀ (g : mG) (M : mM) (P : mP) (x y z u w : Int32), P (some (.inl (G x y z u w))) M → mRun (mSx g) (F g) P (0, [some (.inl x), some (.inl y), some (.inl z), some (.inl u), some (.inl w)] ++ List.replicate (maxL - 5) none, [], M)) : mRunOf maxL (mP5 G) F := fun g as M P hT => by
  unfold mP5 at hT
  split at hT
  · exact ⟨hn, h g M P _ _ _ _ _ hT⟩
  · exact hT.elim
/-- the arrays' helpers: of any int array of the 91 -/
def t_X7_at : mG → mT := fun _ as M P => match as with
  | [.inr (some a), .inl i] => match mSH[a]? with
    | some (0, n, _) => P (some (.inl (aAt (M a) n i))) M
    | _ => False
  | _ => False
def t_X7_set : mG → mT := fun _ as M P => match as with
  | [.inr (some a), .inl i, .inl v] => match mSH[a]? with
    | some (0, n, _) => P none (mUp M a (aSet (M a) n i v))
    | _ => False
  | _ => False
def t_X7_fill : mG → mT := fun _ as M P => match as with
  | [.inr (some a), .inl v] => match mSH[a]? with
    | some (0, n, _) => P none (mUp M a (aFill (M a) n v))
    | _ => False
  | _ => False
/-- of two int arrays of one length -/
def t_X7_take : mG → mT := fun _ as M P => match as with
  | [.inr (some a), .inr (some b)] => match mSH[a]?, mSH[b]? with
    | some (0, n, _), some (0, k, _) => match Nat.beq n k with
      | true => P none (mUp M b (va_cpy (M a) (M b) 0 0 k))
      | false => False
    | _, _ => False
  | _ => False
theorem mo_X7_at : mMn t_X7_at := fun _ _ _ _ _ h k => by
  unfold t_X7_at at k ⊢
  split at k
  · split at k
    · exact h _ _ k
    · exact k
  · exact k
theorem mo_X7_set : mMn t_X7_set := fun _ _ _ _ _ h k => by
  unfold t_X7_set at k ⊢
  split at k
  · split at k
    · exact h _ _ k
    · exact k
  · exact k
theorem mo_X7_fill : mMn t_X7_fill := fun _ _ _ _ _ h k => by
  unfold t_X7_fill at k ⊢
  split at k
  · split at k
    · exact h _ _ k
    · exact k
  · exact k
theorem mo_X7_take : mMn t_X7_take := fun _ _ _ _ _ h k => by
  unfold t_X7_take at k ⊢
  split at k
  · split at k
    · split at k
      · exact h _ _ k
      · exact k
    · exact k
  · exact k
theorem mSx_at {g : mG} {a : Nat} {h : mH} (ha : mSH[a]? = some h) : (mSx g)[a]? = some h := by
  unfold mSx
  rw [List.getElem?_append_left (List.getElem?_eq_some_iff.mp ha).1]
  exact ha
theorem mSH_no {a : Nat} {h : mH} (ha : mSH[a]? = some h) : mRoA a = none ∧ mRoS a = false := by
  have hl : a < 91 := (List.getElem?_eq_some_iff.mp ha).1
  have h1 : Nat.ble 1100 a = false := by
    cases hq : Nat.ble 1100 a with
    | false => rfl
    | true => rw [Nat.ble_eq] at hq; omega
  have h2 : Nat.beq a 1200 = false := by
    cases hq : Nat.beq a 1200 with
    | false => rfl
    | true => rw [Nat.beq_eq] at hq; omega
  have h3 : Nat.beq a 1201 = false := by
    cases hq : Nat.beq a 1201 with
    | false => rfl
    | true => rw [Nat.beq_eq] at hq; omega
  have h4 : Nat.ble 1000 a = false := by
    cases hq : Nat.ble 1000 a with
    | false => rfl
    | true => rw [Nat.ble_eq] at hq; omega
  exact ⟨by unfold mRoA; rw [h1, h2, h3]; rfl, by unfold mRoS; rw [h4]; rfl⟩
