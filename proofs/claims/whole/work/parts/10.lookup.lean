/-! ===== TABLES: code, fields, calls ===== -/
def mLk {α : Type} : List (Nat × α) → Nat → Option α
  | [], _ => none
  | q :: t, k => match Nat.beq q.1 k with
    | true => some q.2
    | false => mLk t k
theorem mLk_mem {α : Type} : ∀ {l : List (Nat × α)} {k : Nat} {x : α}, mLk l k = some x → (k, x) ∈ l
  | [], _, _, h => by cases h
  | q :: t, k, x, h => by
    unfold mLk at h
    split at h
    · rename_i hq
      cases h
      have e : q.1 = k := by simpa using hq
      subst e
      exact List.mem_cons_self
    · exact List.mem_cons_of_mem _ (mLk_mem h)
theorem mCodeOK {cc : ByteArray} {l : List (Nat × mI)} (h : (l.all fun e => mChk cc e.1 e.2) = true) (pc : Nat) (x : mI) (hx : mLk l pc = some x) : mChk cc pc x = true := List.all_eq_true.mp h (pc, x) (mLk_mem hx)
theorem mFldL {own : String} {l : List (Nat × Nat × Nat × Nat)} (h : ∀ e ∈ l, mFldE own e) {F : mF} (hF : F.2.1 = mLk l) : mFldOK own F mGW := by
  intro idx ci k b hq
  rw [hF] at hq
  exact h _ (mLk_mem hq)
theorem mCalL {own : String} {d : Nat} {F : mG → mF} {l : List (Nat × Nat × (mG → mT))} (h : ∀ e ∈ l, mSite own d e.1 e.2.1 e.2.2) (hF : ∀ g, (F g).2.2.1 = mLk (l.map fun e => (e.1, e.2.1, e.2.2 g))) : ∀ (g : mG) (key n : Nat) (T' : mT), (F g).2.2.1 key = some (n, T') → ∃ T2 : mG → mT, T' = T2 g ∧ mSite own d key n T2 := by
  intro g key n T' hq
  rw [hF] at hq
  obtain ⟨e, he, e2⟩ := List.mem_map.mp (mLk_mem hq)
  cases e2
  exact ⟨e.2.2, rfl, h e he⟩
/-! shapes of specifications -/
abbrev mR : Type := Option (Option mV × mM)
def mOut (q : mR) (P : mP) : Prop := match q with
  | some x => P x.1 x.2
  | none => False
def mFS (f : List mV → mM → mR) : mG → mT := fun _ as M P => mOut (f as M) P
def mFI (pl : Nat → Bool) (f : Nat → List mV → mM → mR) : mG → mT := fun _ as M P => match as with
  | .inr (some a) :: rs => match pl a with
    | true => mOut (f a rs M) P
    | false => False
  | _ => False
def mRl {α : Type} (Pre : α → mG → List mV → mM → Prop) (Post : α → mG → List mV → mM → Option mV → mM → Prop) : mG → mT := fun g as M P => ∃ x : α, Pre x g as M ∧ ∀ r M', Post x g as M r M' → P r M'
def mMn (T : mG → mT) : Prop := ∀ (g : mG) (a : List mV) (M : mM) (P Q : mP), (∀ r M', P r M' → Q r M') → T g a M P → T g a M Q
theorem mOut_mono {q : mR} {P Q : mP} (h : ∀ r M', P r M' → Q r M') (k : mOut q P) : mOut q Q := by
  unfold mOut at k ⊢
  split at k
  · exact h _ _ k
  · exact k
theorem mFS_mono {f : List mV → mM → mR} : mMn (mFS f) := fun _ _ _ _ _ h k => mOut_mono h k
theorem mFI_mono {pl : Nat → Bool} {f : Nat → List mV → mM → mR} : mMn (mFI pl f) := fun g a M P Q h k => by
  unfold mFI at k ⊢
  split at k
  · split at k
    · exact mOut_mono h k
    · exact k
  · exact k
theorem mRl_mono {α : Type} {Pre : α → mG → List mV → mM → Prop} {Post : α → mG → List mV → mM → Option mV → mM → Prop} : mMn (mRl Pre Post) := fun _ _ _ _ _ h k => by
  obtain ⟨x, h1, h2⟩ := k
  exact ⟨x, h1, fun r M' z => h _ _ (h2 r M' z)⟩
theorem tMax_mono : mMn tMax := fun g a M P Q h k => by
  unfold tMax at k ⊢
  split at k
  · exact h _ _ k
  · exact k
theorem tMin_mono : mMn tMin := fun g a M P Q h k => by
  unfold tMin at k ⊢
  split at k
  · exact h _ _ k
  · exact k
theorem tCopy_mono : mMn tCopy := fun g a M P Q h k => by
  unfold tCopy at k ⊢
  split at k
  · obtain ⟨na, nb, h1, h2, h3, h4, h5, h6, h7, h8⟩ := k
    exact ⟨na, nb, h1, h2, h3, h4, h5, h6, h7, h _ _ h8⟩
  · exact k
theorem mMonoL {F : mF} {g : mG} {l : List (Nat × Nat × (mG → mT))} (h : ∀ e ∈ l, mMn e.2.2) (hF : F.2.2.1 = mLk (l.map fun e => (e.1, e.2.1, e.2.2 g))) : mMono F := by
  intro key n T hq a M P Q hPQ k
  rw [hF] at hq
  obtain ⟨e, he, e2⟩ := List.mem_map.mp (mLk_mem hq)
  cases e2
  exact h e he g a M P Q hPQ k
theorem mFI_recv {pl : Nat → Bool} {f : Nat → List mV → mM → mR} {y : MethodName} {n : Nat} (h : ∀ (g : mG) (a : Nat), pl a = true → mIsA (mSx g) y.cls a) : mHasR y n (mFI pl f) := by
  intro g as M P hT hl
  unfold mFI at hT
  split at hT
  · rename_i a rs
    split at hT
    · rename_i hp
      exact ⟨a, rs, rfl, h g a hp⟩
    · exact hT.elim
  · exact hT.elim
/-- a method that is specified by a relation: it answers an int -/
def mRi {α : Type} (Pre : α → List mV → mM → Prop) (Post : α → List mV → mM → Int32 → mM → Prop) : mG → mT := fun _ as M P => ∃ x : α, Pre x as M ∧ ∀ (v : Int32) (M' : mM), Post x as M v M' → P (some (.inl v)) M'
/-- .. nothing -/
def mRv {α : Type} (Pre : α → List mV → mM → Prop) (Post : α → List mV → mM → mM → Prop) : mG → mT := fun _ as M P => ∃ x : α, Pre x as M ∧ ∀ M' : mM, Post x as M M' → P none M'
theorem mRi_mono {α : Type} {Pre : α → List mV → mM → Prop} {Post : α → List mV → mM → Int32 → mM → Prop} : mMn (mRi Pre Post) := fun _ _ _ _ _ h k => by
  obtain ⟨x, h1, h2⟩ := k
  exact ⟨x, h1, fun v M' z => h _ _ (h2 v M' z)⟩
theorem mRv_mono {α : Type} {Pre : α → List mV → mM → Prop} {Post : α → List mV → mM → mM → Prop} : mMn (mRv Pre Post) := fun _ _ _ _ _ h k => by
  obtain ⟨x, h1, h2⟩ := k
  exact ⟨x, h1, fun M' z => h _ _ (h2 M' z)⟩
def mCstE (own : String) (e : Nat × mV) : Prop := (∃ x, e.2 = .inl x ∧ Cond.constant own e.1 x ∈ mGW) ∨ (∃ (i : Nat) (tx : String), e.2 = .inr (some (1000 + i)) ∧ ((own, e.1, tx, i) : String × Nat × String × Nat) ∈ ([("TrickHouse", 326, "deal", 0), ("TrickHouse", 328, "bid", 1), ("TrickHouse", 330, "pass", 2), ("TrickHouse", 332, "double", 3), ("TrickHouse", 334, "redouble", 4), ("TrickHouse", 336, "play", 5), ("TrickHouse", 337, "claim", 6), ("TrickHouse", 339, "rank", 7), ("TrickHouse", 341, "rule", 8), ("TrickHouse", 343, "", 9), ("TrickHouseModel", 267, "c", 10), ("TrickHouseModel", 269, "d", 11), ("TrickHouseModel", 271, "h", 12), ("TrickHouseModel", 273, "s", 13), ("TrickHouseModel", 275, "n", 14), ("TrickHouseModel", 243, "deal", 0), ("TrickHouseModel", 245, "bid", 1), ("TrickHouseModel", 246, "pass", 2), ("TrickHouseModel", 248, "double", 3), ("TrickHouseModel", 250, "redouble", 4), ("TrickHouseModel", 252, "play", 5), ("TrickHouseModel", 254, "claim", 6), ("TrickHouseModel", 256, "rank", 7), ("TrickHouseModel", 258, "rule", 8), ("TrickHouseModel", 326, "cdhsn", 15), ("TrickHouseModel", 335, " ", 16)] : List (String × Nat × String × Nat)))
theorem mCstL {own : String} {F : mG → mF} {l : List (Nat × mV)} (h : ∀ e ∈ l, mCstE own e) (hF : ∀ g, (F g).2.2.2.1 = mLk l) : mCstT own F := by
  intro g idx v hq
  rw [hF] at hq
  exact h _ (mLk_mem hq)
