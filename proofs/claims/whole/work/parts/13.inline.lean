/-! ===== METHODS WITHOUT LOOPS: what they ask is what their instructions ask ===== -/
theorem mOp_monoP {SH : List mH} {F : mF} {P Q : mP} (h : ∀ r M, P r M → Q r M) {X : mS → Prop} {e : mI} {pc : Nat} {L : mL} {S : List mV} {M : mM} (w : mOp SH F P X e pc L S M) : mOp SH F Q X e pc L S M := by
  obtain ⟨i, n, a, v, tl⟩ := e
  cases i
  case ireturn =>
    simp only [mOp, mEnd] at w ⊢
    repeat' split at w
    all_goals first | exact w | exact h _ _ w | exact ⟨w.1, h _ _ w.2⟩
  case areturn =>
    simp only [mOp, mEndA] at w ⊢
    repeat' split at w
    all_goals first | exact w | exact h _ _ w
  case return_ =>
    simp only [mOp, mEndV] at w ⊢
    repeat' split at w
    all_goals first | exact w | exact h _ _ w
  case ifCond cd o => cases cd <;> exact w
  case if_icmp cd o => cases cd <;> exact w
  all_goals exact w
theorem mWp_monoP {SH : List mH} {F : mF} {P Q : mP} (h : ∀ r M, P r M → Q r M) {X : mS → Prop} {σ : mS} (w : mWp SH F P X σ) : mWp SH F Q X σ := by
  unfold mWp at w ⊢
  split at w
  · exact w
  · exact mOp_monoP h w
theorem mVc_mono {SH : List mH} {F : mF} (hF : mMono F) {P Q : mP} (h : ∀ r M, P r M → Q r M) {X Y : mS → Prop} (hX : ∀ σ, X σ → Y σ) (st : List Nat) : ∀ (n : Nat) {σ : mS}, mVc SH F P st X n σ → mVc SH F Q st Y n σ
  | 0, _, k => hX _ k
  | n + 1, σ, k => by
    refine mWp_monoP h (mWp_mono hF (fun τ w => ?_) k)
    split at w
    · exact hX _ w
    · exact mVc_mono hF h hX st n w
/-- an instance method, by its own instructions -/
def mIV (pl : Nat → Bool) (F : mG → mF) (maxL fuel : Nat) : mG → mT := fun g as M P => match as with
  | .inr (some a) :: rs => match pl a, Nat.ble (rs.length + 1) maxL with
    | true, true => mVc (mSx g) (F g) P [] (fun _ => False) fuel (0, some (.inr (some a)) :: (rs.map some ++ List.replicate (maxL - (rs.length + 1)) none), [], M)
    | _, _ => False
  | _ => False
def mSV (F : mG → mF) (maxL fuel : Nat) : mG → mT := fun g as M P => match Nat.ble as.length maxL with
  | true => mVc (mSx g) (F g) P [] (fun _ => False) fuel (0, as.map some ++ List.replicate (maxL - as.length) none, [], M)
  | false => False
theorem mIV_mono {pl : Nat → Bool} {F : mG → mF} {maxL fuel : Nat} (hF : ∀ g, mMono (F g)) : mMn (mIV pl F maxL fuel) := fun g as M P Q h k => by
  unfold mIV at k ⊢
  split at k
  · split at k
    · exact mVc_mono (hF g) h (fun _ z => z) [] fuel k
    · exact k
  · exact k
theorem mSV_mono {F : mG → mF} {maxL fuel : Nat} (hF : ∀ g, mMono (F g)) : mMn (mSV F maxL fuel) := fun g as M P Q h k => by
  unfold mSV at k ⊢
  split at k
  · exact mVc_mono (hF g) h (fun _ z => z) [] fuel k
  · exact k
theorem mIV_run {pl : Nat → Bool} {F : mG → mF} {maxL fuel : Nat} (hF : ∀ g, mMono (F g)) : mRunOf maxL (mIV pl F maxL fuel) F := fun g as M P k => by
  unfold mIV at k
  split at k
  · rename_i a rs
    split at k
    · rename_i h1 h2
      rw [Nat.ble_eq] at h2
      exact ⟨h2, mRun.vc (hF g) [] fuel (mVc_mono (hF g) (fun _ _ z => z) (fun _ z => z.elim) [] fuel k)⟩
    · exact k.elim
  · exact k.elim
theorem mSV_run {F : mG → mF} {maxL fuel : Nat} (hF : ∀ g, mMono (F g)) : mRunOf maxL (mSV F maxL fuel) F := fun g as M P k => by
  unfold mSV at k
  split at k
  · rename_i h1
    rw [Nat.ble_eq] at h1
    exact ⟨h1, mRun.vc (hF g) [] fuel (mVc_mono (hF g) (fun _ _ z => z) (fun _ z => z.elim) [] fuel k)⟩
  · exact k.elim
theorem mIV_recv {pl : Nat → Bool} {F : mG → mF} {maxL fuel : Nat} {y : MethodName} {n : Nat} (h : ∀ (g : mG) (a : Nat), pl a = true → mIsA (mSx g) y.cls a) : mHasR y n (mIV pl F maxL fuel) := by
  intro g as M P k hl
  unfold mIV at k
  split at k
  · rename_i a rs
    split at k
    · rename_i hp _
      exact ⟨a, rs, rfl, h g a hp⟩
    · exact k.elim
  · exact k.elim
def pl_X0 (a : Nat) : Bool := Nat.beq a 3 || Nat.beq a 8
def pl_X1 (a : Nat) : Bool := Nat.beq a 14 || Nat.beq a 27
def pl_X2 (a : Nat) : Bool := Nat.beq a 16 || Nat.beq a 29
def pl_X3 (a : Nat) : Bool := Nat.beq a 24 || Nat.beq a 37
def pl_X4 (a : Nat) : Bool := Nat.beq a 40 || Nat.beq a 42 || Nat.beq a 44 || Nat.beq a 46
def pl_X5 (a : Nat) : Bool := Nat.beq a 13 || Nat.beq a 26
def pl_X6 (a : Nat) : Bool := Nat.beq a 1
def pl_X7 (a : Nat) : Bool := Nat.beq a 0
def pl_X8 (a : Nat) : Bool := Nat.beq a 50
def pl_J0 (a : Nat) : Bool := mRoS a
theorem pl_two {a x y : Nat} (h : (Nat.beq a x || Nat.beq a y) = true) : a = x ∨ a = y := by
  rw [Bool.or_eq_true, Nat.beq_eq, Nat.beq_eq] at h
  exact h
theorem mIsA_of {g : mG} {a ci : Nat} {rs : List (Option Nat)} {q : vw_C} {C : String} (h1 : mSH[a]? = some (ci + 5, 0, rs)) (h2 : vwCl[ci]? = some q) (h3 : q.1 = C) : mIsA (mSx g) C a := Or.inl ⟨ci, 0, rs, q, mSx_at h1, h2, h3⟩
theorem is_X0 (g : mG) (a : Nat) (h : pl_X0 a = true) : mIsA (mSx g) RX0 a := by
  rcases pl_two h with rfl | rfl
  · exact mIsA_of (ci := 2) rfl rfl rfl
  · exact mIsA_of (ci := 2) rfl rfl rfl
theorem is_X1 (g : mG) (a : Nat) (h : pl_X1 a = true) : mIsA (mSx g) RX1 a := by
  rcases pl_two h with rfl | rfl
  · exact mIsA_of (ci := 3) rfl rfl rfl
  · exact mIsA_of (ci := 3) rfl rfl rfl
theorem is_X2 (g : mG) (a : Nat) (h : pl_X2 a = true) : mIsA (mSx g) RX2 a := by
  rcases pl_two h with rfl | rfl
  · exact mIsA_of (ci := 4) rfl rfl rfl
  · exact mIsA_of (ci := 4) rfl rfl rfl
theorem is_X3 (g : mG) (a : Nat) (h : pl_X3 a = true) : mIsA (mSx g) RX3 a := by
  rcases pl_two h with rfl | rfl
  · exact mIsA_of (ci := 5) rfl rfl rfl
  · exact mIsA_of (ci := 5) rfl rfl rfl
theorem is_X4 (g : mG) (a : Nat) (h : pl_X4 a = true) : mIsA (mSx g) RX4 a := by
  unfold pl_X4 at h
  rw [Bool.or_eq_true, Bool.or_eq_true, Bool.or_eq_true, Nat.beq_eq, Nat.beq_eq, Nat.beq_eq, Nat.beq_eq] at h
  rcases h with ((rfl | rfl) | rfl) | rfl
  · exact mIsA_of (ci := 6) rfl rfl rfl
  · exact mIsA_of (ci := 6) rfl rfl rfl
  · exact mIsA_of (ci := 6) rfl rfl rfl
  · exact mIsA_of (ci := 6) rfl rfl rfl
theorem is_X5 (g : mG) (a : Nat) (h : pl_X5 a = true) : mIsA (mSx g) RX5 a := by
  rcases pl_two h with rfl | rfl
  · exact mIsA_of (ci := 7) rfl rfl rfl
  · exact mIsA_of (ci := 7) rfl rfl rfl
theorem is_X6 (g : mG) (a : Nat) (h : pl_X6 a = true) : mIsA (mSx g) RX6 a := by
  unfold pl_X6 at h
  rw [Nat.beq_eq] at h
  subst h
  exact mIsA_of (ci := 8) rfl rfl rfl
theorem is_X7 (g : mG) (a : Nat) (h : pl_X7 a = true) : mIsA (mSx g) RX7 a := by
  unfold pl_X7 at h
  rw [Nat.beq_eq] at h
  subst h
  exact mIsA_of (ci := 9) rfl rfl rfl
theorem is_X8 (g : mG) (a : Nat) (h : pl_X8 a = true) : mIsA (mSx g) RX8 a := by
  unfold pl_X8 at h
  rw [Nat.beq_eq] at h
  subst h
  exact mIsA_of (ci := 10) rfl rfl rfl
theorem is_J0 (g : mG) (a : Nat) (h : pl_J0 a = true) : mIsA (mSx g) RJ0 a := Or.inr ⟨rfl, h⟩
