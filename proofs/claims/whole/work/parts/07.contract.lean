/-! ===== CONTRACTS OF THE SMALL MACHINE'S METHODS ===== -/
/-- the cells of the world: the class's (0 TrickHouse; 1 Tape; 3, 8 ActLogs; 13, 26 Tables, each with Bids, Play, Scores behind it; 39 the sheets, 40 .. 46; 48 the line), the reference's (50, its rows 51 .. 90) -/
def mSH : List mH := [
  (14, 0, [some 1, some 3, some 8, some 13, some 26, some 39, some 48, none]),
  (13, 0, [some 2, none, none, none, none, none, none]),
  (0, 40, []),
  (7, 0, [some 4, some 5, some 6, some 7, none]),
  (0, 90, []),
  (0, 90, []),
  (0, 90, []),
  (0, 90, []),
  (7, 0, [some 9, some 10, some 11, some 12, none]),
  (0, 90, []),
  (0, 90, []),
  (0, 90, []),
  (0, 90, []),
  (12, 0, [some 14, some 16, some 24, none, none, none, none]),
  (8, 0, [some 15, none, none, none, none, none, none, none]),
  (0, 10, []),
  (9, 0, [some 17, some 18, some 19, some 20, some 21, some 22, some 23, none, none, none, none, none]),
  (0, 32, []),
  (0, 4, []),
  (0, 4, []),
  (0, 32, []),
  (0, 8, []),
  (0, 8, []),
  (0, 2, []),
  (10, 0, [some 25, none, none, none, none, none]),
  (0, 12, []),
  (12, 0, [some 27, some 29, some 37, none, none, none, none]),
  (8, 0, [some 28, none, none, none, none, none, none, none]),
  (0, 10, []),
  (9, 0, [some 30, some 31, some 32, some 33, some 34, some 35, some 36, none, none, none, none, none]),
  (0, 32, []),
  (0, 4, []),
  (0, 4, []),
  (0, 32, []),
  (0, 8, []),
  (0, 8, []),
  (0, 2, []),
  (10, 0, [some 38, none, none, none, none, none]),
  (0, 12, []),
  (2, 4, [some 40, some 42, some 44, some 46]),
  (11, 0, [some 41, none, none]),
  (0, 40, []),
  (11, 0, [some 43, none, none]),
  (0, 40, []),
  (11, 0, [some 45, none, none]),
  (0, 40, []),
  (11, 0, [some 47, none, none]),
  (0, 40, []),
  (6, 0, [some 49, none, none, none]),
  (3, 16, []),
  (15, 0, [none, some 51, some 52, some 53, some 54, none, none, none, none, none, none, none, none, none, none, none, some 55, some 58, some 59, none, some 60, some 61, some 62, some 63, some 64, some 73, none, none, none, none, none, some 76, some 77, none, none, none, none, none, none, none, none, none, some 78, some 83, some 84, some 85, some 90]),
  (0, 90, []),
  (0, 90, []),
  (0, 90, []),
  (0, 90, []),
  (1, 2, [some 56, some 57]),
  (0, 5, []),
  (0, 5, []),
  (0, 4, []),
  (0, 4, []),
  (0, 8, []),
  (0, 8, []),
  (0, 8, []),
  (0, 2, []),
  (1, 8, [some 65, some 66, some 67, some 68, some 69, some 70, some 71, some 72]),
  (0, 4, []),
  (0, 4, []),
  (0, 4, []),
  (0, 4, []),
  (0, 4, []),
  (0, 4, []),
  (0, 4, []),
  (0, 4, []),
  (1, 2, [some 74, some 75]),
  (0, 6, []),
  (0, 6, []),
  (0, 32, []),
  (0, 40, []),
  (1, 4, [some 79, some 80, some 81, some 82]),
  (0, 90, []),
  (0, 90, []),
  (0, 90, []),
  (0, 90, []),
  (0, 4, []),
  (0, 4, []),
  (1, 4, [some 86, some 87, some 88, some 89]),
  (0, 40, []),
  (0, 40, []),
  (0, 40, []),
  (0, 40, []),
  (0, 40, [])]
def mNest : Cond → Bool
  | .methodLinkNest .. => true
  | _ => false
def mWd (y : MethodName) (bytes : ByteArray) (maxL : Nat) (ret : Option FieldType) : List Cond := .code y bytes maxL ret :: mGW
def mRm (d : Nat) : Room := { frames := d, cells := 0, slots := 0, locals := 48 * d }
def mRf (ad : Nat → Nat) (U : State) : Prop := ∀ q ∈ ([("TrickHouse", 326, "deal", 0), ("TrickHouse", 328, "bid", 1), ("TrickHouse", 330, "pass", 2), ("TrickHouse", 332, "double", 3), ("TrickHouse", 334, "redouble", 4), ("TrickHouse", 336, "play", 5), ("TrickHouse", 337, "claim", 6), ("TrickHouse", 339, "rank", 7), ("TrickHouse", 341, "rule", 8), ("TrickHouse", 343, "", 9), ("TrickHouseModel", 267, "c", 10), ("TrickHouseModel", 269, "d", 11), ("TrickHouseModel", 271, "h", 12), ("TrickHouseModel", 273, "s", 13), ("TrickHouseModel", 275, "n", 14), ("TrickHouseModel", 243, "deal", 0), ("TrickHouseModel", 245, "bid", 1), ("TrickHouseModel", 246, "pass", 2), ("TrickHouseModel", 248, "double", 3), ("TrickHouseModel", 250, "redouble", 4), ("TrickHouseModel", 252, "play", 5), ("TrickHouseModel", 254, "claim", 6), ("TrickHouseModel", 256, "rank", 7), ("TrickHouseModel", 258, "rule", 8), ("TrickHouseModel", 326, "cdhsn", 15), ("TrickHouseModel", 335, " ", 16)] : List (String × Nat × String × Nat)), vk_R q.1 q.2.1 q.2.2.1 (ad (1000 + q.2.2.2)) U
def mZs (ad : Nat → Nat) (o : Option Nat) (A : Nat → Prop) (U : State) (H : Heap) : Prop :=
  va_Z "java/lang/String" "COMPACT_STRINGS" "Z" (.int 1) A U H ∧ va_Z "java/lang/Integer" "DigitTens" "[B" (.ref (ad 1200)) A U H ∧ va_Z "java/lang/Integer" "DigitOnes" "[B" (.ref (ad 1201)) A U H ∧
  va_Z "jdk/internal/util/Preconditions" "SIOOBE_FORMATTER" "Ljava/util/function/BiFunction;" (va_rf (o.map ad)) A U H
/-- where things stand: addresses, class tables, array classes, the formatter, shapes of cells beyond the 91 -/
abbrev mG : Type := (Nat → Nat) × va_G × (Nat → ClassId) × Option Nat × List mH
def mSx (g : mG) : List mH := mSH ++ g.2.2.2.2
/-- what every method needs of the state -/
def mEnv (g : mG) (A : Nat → Prop) (U : State) (H : Heap) : Prop :=
  va_K g.2.1 vwCl (mTys g.2.2.1) U ∧ (∀ w ∈ lw_tbl, mNest w = true → va_Nw w U) ∧ mRf g.1 U ∧ mStr g.1 A U H ∧ mZs g.1 g.2.2.2.1 A U H
theorem mEnv.warm {g : mG} {A : Nat → Prop} {s U : State} {H : Heap} (hW : s.WarmedH U.vm) (h : mEnv g A s H) : mEnv g A U H := by
  obtain ⟨h1, h2, h3, h4, h5, h6, h7, h8⟩ := h
  refine ⟨va_K.moved hW.alike h1, fun w hw hn => ?_, fun q hq => vk_R.warm hW (h3 q hq), mStr.moved hW.alike h4, va_Z.moved hW.alike h5, va_Z.moved hW.alike h6, va_Z.moved hW.alike h7, va_Z.moved hW.alike h8⟩
  cases w <;> first | (simp [mNest] at hn; done) | exact va_Nw.warmM hW (h2 _ hw hn)
theorem mEnv.kept {g : mG} {A : Nat → Prop} {U : State} {H H1 : Heap} (h : mEnv g A U H) (hq : ∀ a : Nat, a < H.size → ¬ A a → H1[a]? = H[a]?) : mEnv g A U H1 := by
  obtain ⟨h1, h2, h3, h4, h5, h6, h7, h8⟩ := h
  exact ⟨h1, h2, h3, h4.kept hq, h5.kept hq, h6.kept hq, h7.kept hq, h8.kept hq⟩
theorem mEnv.narrow {g : mG} {A B : Nat → Prop} {U : State} {H : Heap} (h : mEnv g A U H) (hAB : ∀ q, B q → A q) : mEnv g B U H := by
  obtain ⟨h1, h2, h3, h4, h5, h6, h7, h8⟩ := h
  exact ⟨h1, h2, h3, h4.narrow hAB, h5.narrow hAB, h6.narrow hAB, h7.narrow hAB, h8.narrow hAB⟩
theorem mEnv.same {g : mG} {A : Nat → Prop} {u U : State} {H : Heap} (hv : u.vm = U.vm) (h : mEnv g A u H) : mEnv g A U H := by
  obtain ⟨h1, h2, h3, h4, h5, h6, h7, h8⟩ := h
  have ha : u.vm.Alike U.vm := by rw [hv]; exact Vm.Alike.refl _
  refine ⟨va_K.moved ha h1, fun w hw hn => ?_, fun q hq => vk_R.same hv.symm (h3 q hq), mStr.moved ha h4, va_Z.moved ha h5, va_Z.moved ha h6, va_Z.moved ha h7, va_Z.moved ha h8⟩
  cases w <;> first | (simp [mNest] at hn; done) | exact va_Nw.same rfl hv (h2 _ hw hn)
/-- the addresses that a method may write: its cells, and what is new -/
def mA (g : mG) (sz : Nat) : Nat → Prop := fun q => (∃ c, c < (mSx g).length ∧ g.1 c = q) ∨ sz ≤ q
def mB (g : mG) (sz : Nat) (M : mM) : State → Prop := fun U => U.heap.size = sz ∧ va_P g.2.1 vwCl (mWs g.1 g.2.2.1 (mSx g) M) U.heap ∧ va_D (fun _ => True) (mWs g.1 g.2.2.1 (mSx g) M) ∧ mEnv g (mA g sz) U U.heap
def mQ (g : mG) (P : mP) (A : Nat → Prop) : Array Value → State → Outcome → State → Prop := fun _ st oc t => (∃ (r : Option mV) (M' : mM), oc = .returned (r.map (mval g.1)) ∧ P r M' ∧ va_P g.2.1 vwCl (mWs g.1 g.2.2.1 (mSx g) M') t.heap) ∧ va_F A st t
/-- method y meets, at room level d, what T says of it -/
def mOK (y : MethodName) (bytes : ByteArray) (maxL : Nat) (ret : Option FieldType) (d : Nat) (T : mG → mT) : Prop :=
  ∀ (l : Launch) (g : mG) (sz : Nat) (as : List mV) (M : mM) (P : mP), T g as M P → Met l y (mWd y bytes maxL ret) (mRm d) (va_Pc (as.map (mval g.1)) (mB g sz M)) (mQ g P (mA g sz)) 0 0 (mA g sz)
theorem mB_blind {g : mG} {sz : Nat} {M : mM} {av : List Value} : FrameBlind (va_Pc av (mB g sz M)) := by
  intro a U gf mk h
  obtain ⟨h1, h2, h3, h4, h5⟩ := h
  exact ⟨h1, h2, h3, h4, mEnv.same (u := U) (U := U.calling gf mk a) rfl h5⟩
theorem mDself {g : mG} {M M' : mM} {sz : Nat} (h : va_D (fun _ => True) (mWs g.1 g.2.2.1 (mSx g) M)) : va_D (mA g sz) (mWs g.1 g.2.2.1 (mSx g) M') :=
  (mWs_D h M').weaken (fun k q hk _ => Or.inl ⟨k, (mWs_at hk).1, (mWs_at hk).2.symm⟩)
/-- a call's site, in class own at room level d -/
def mSite (own : String) (d key n : Nat) (T : mG → mT) : Prop :=
  ∀ {p : Program} {l : Launch} {e : Env} {s : State} {m : MethodId} {args : Array Value} {below : List Frame} {meth : Method} {c : Code} {Q : State → Prop} {cc : ByteArray} {nL : Nat} (g : mG), p.tables.exec = Jvm.exec → c.code = cc → c.maxLocals = nL → s.vm.findClass own = some m.cls → (∀ w ∈ mGW, w.before args s = true) → va_D (mA g s.heap.size) (mWs g.1 g.2.2.1 (mSx g) (fun _ _ => 0)) → mEnv g (mA g s.heap.size) s s.heap →
    mCallOK p l e (mRm d) s m args below meth c 0 0 Q g.2.1 (mA g s.heap.size) g.1 g.2.2.1 (mSx g) nL cc key n (T g)
