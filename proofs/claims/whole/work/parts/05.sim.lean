/-! ===== ONE STEP OF THE SMALL MACHINE IS ONE OF THE MACHINE'S ===== -/
def mTabs (pc : Nat) : Int → List Int → List (Int32 × Nat) → Bool
  | _, [], [] => true
  | lo, o :: os, q :: tl => decide (q.1.toInt = lo) && decide ((pc : Int) + o = (q.2 : Int)) && mTabs pc (lo + 1) os tl
  | _, _, _ => false
def mLks (pc : Nat) : List (Int × Int) → List (Int32 × Nat) → Bool
  | [], [] => true
  | a :: ps, q :: tl => decide (q.1.toInt = a.1) && decide ((pc : Int) + a.2 = (q.2 : Int)) && mLks pc ps tl
  | _, _ => false
theorem mTabs_sw {X : mS → Prop} {pc d : Nat} {x : Int32} {L : mL} {S : List mV} {M : mM} : ∀ {os : List Int} {tl : List (Int32 × Nat)} {lo : Int}, mTabs pc lo os tl = true → mSw X x d L S M tl →
    (∃ (o : Int) (t k : Nat), os[k]? = some o ∧ x.toInt = lo + k ∧ (pc : Int) + o = (t : Int) ∧ X (t, L, S, M)) ∨ ((x.toInt < lo ∨ lo + os.length ≤ x.toInt) ∧ X (d, L, S, M))
  | [], [], lo, _, k => Or.inr ⟨by
      have : lo + ([] : List Int).length = lo := by simp
      omega, k⟩
  | o :: os, q :: tl, lo, h, k => by
    simp only [mTabs, Bool.and_eq_true, decide_eq_true_eq] at h
    by_cases e : x = q.1
    · exact Or.inl ⟨o, q.2, 0, rfl, by rw [e, h.1.1]; simp, h.1.2, k.1 e⟩
    · rcases mTabs_sw h.2 (k.2 e) with ⟨o', t, i, h1, h2, h3, h4⟩ | ⟨h1, h2⟩
      · exact Or.inl ⟨o', t, i + 1, by simpa using h1, by rw [h2]; push_cast; omega, h3, h4⟩
      · refine Or.inr ⟨?_, h2⟩
        have hne : x.toInt ≠ lo := fun z => e (Int32.toInt_inj.mp (by rw [z, h.1.1]))
        have hlen : ((o :: os).length : Int) = (os.length : Int) + 1 := by simp
        omega
  | [], _ :: _, _, h, _ => by simp [mTabs] at h
  | _ :: _, [], _, h, _ => by simp [mTabs] at h
theorem mLks_sw {X : mS → Prop} {pc d : Nat} {x : Int32} {dflt : Int} {L : mL} {S : List mV} {M : mM} (hd : (pc : Int) + dflt = (d : Int)) : ∀ {ps : List (Int × Int)} {tl : List (Int32 × Nat)}, mLks pc ps tl = true → mSw X x d L S M tl →
    ∃ t : Nat, (pc : Int) + Op.lookupswitch.offset ps dflt x.toInt = (t : Int) ∧ X (t, L, S, M)
  | [], [], _, k => ⟨d, hd, k⟩
  | a :: ps, q :: tl, h, k => by
    simp only [mLks, Bool.and_eq_true, decide_eq_true_eq] at h
    obtain ⟨a1, a2⟩ := a
    by_cases e : x = q.1
    · exact ⟨q.2, by rw [Op.lookupswitch.offset_cons, if_pos (by rw [e]; exact h.1.1.symm)]; exact h.1.2, k.1 e⟩
    · obtain ⟨t, h1, h2⟩ := mLks_sw hd h.2 (k.2 e)
      exact ⟨t, by rw [lv_osw e h.1.1]; exact h1, h2⟩
  | [], _ :: _, h, _ => by simp [mLks] at h
  | _ :: _, [], h, _ => by simp [mLks] at h
/-- what a table's entry must say, beyond the decoded instruction -/
def mAux (pc : Nat) (e : mI) : Bool := match e.1 with
  | .iconst n => decide (Int32.ofInt n = e.2.2.2.1) && decide (e.2.1 = 1)
  | .bipush n => decide ((Int8.ofInt n).toInt32 = e.2.2.2.1) && decide (e.2.1 = 2)
  | .sipush n => decide ((Int16.ofInt n).toInt32 = e.2.2.2.1) && decide (e.2.1 = 3)
  | .ldc _ => decide (e.2.1 = 2)
  | .ldc_w _ => decide (e.2.1 = 3)
  | .iload_n k => decide ((k : Nat) = e.2.2.1) && decide (e.2.1 = 1)
  | .aload_n k => decide ((k : Nat) = e.2.2.1) && decide (e.2.1 = 1)
  | .istore_n k => decide ((k : Nat) = e.2.2.1) && decide (e.2.1 = 1)
  | .astore_n k => decide ((k : Nat) = e.2.2.1) && decide (e.2.1 = 1)
  | .iload i => decide (i = e.2.2.1) && decide (e.2.1 = 2)
  | .aload i => decide (i = e.2.2.1) && decide (e.2.1 = 2)
  | .istore i => decide (i = e.2.2.1) && decide (e.2.1 = 2)
  | .astore i => decide (i = e.2.2.1) && decide (e.2.1 = 2)
  | .iinc i n => (decide (i = e.2.2.1) && decide (Int32.ofInt n = e.2.2.2.1)) && decide (e.2.1 = 3)
  | .ifCond _ o => decide ((pc : Int) + o = (e.2.2.1 : Int)) && decide (e.2.1 = 3)
  | .if_icmp _ o => decide ((pc : Int) + o = (e.2.2.1 : Int)) && decide (e.2.1 = 3)
  | .goto o => decide ((pc : Int) + o = (e.2.2.1 : Int)) && decide (e.2.1 = 3)
  | .ifnull o => decide ((pc : Int) + o = (e.2.2.1 : Int)) && decide (e.2.1 = 3)
  | .ifnonnull o => decide ((pc : Int) + o = (e.2.2.1 : Int)) && decide (e.2.1 = 3)
  | .tableswitch d lo hi os => (decide ((pc : Int) + d = (e.2.2.1 : Int)) && decide (hi = lo + os.toList.length - 1)) && mTabs pc lo os.toList e.2.2.2.2
  | .lookupswitch d ps => (decide ((pc : Int) + d = (e.2.2.1 : Int)) && (ps.toList.zip (ps.toList.drop 1)).all (fun (a, next) => a.1 < next.1)) && mLks pc ps.toList e.2.2.2.2
  | .getfield _ => decide (e.2.1 = 3)
  | .getstatic _ => decide (e.2.1 = 3)
  | .putfield _ => decide (e.2.1 = 3)
  | .invokevirtual _ => decide (e.2.1 = 3)
  | .invokestatic _ => decide (e.2.1 = 3)
  | .invokespecial _ => decide (e.2.1 = 3)
  | _ => decide (e.2.1 = 1)
def mChk (cc : ByteArray) (pc : Nat) (e : mI) : Bool := decide (decode cc pc = .ok (e.1, e.2.1)) && mAux pc e
/-- fields: what the links and the class's table say -/
def mFldOK (own : String) (F : mF) (Ts : List Cond) : Prop := ∀ (idx ci k b : Nat), F.2.1 idx = some (ci, k, b) → ∃ (C : String) (T : u_T) (N : Nat) (ty : Nat → FieldType),
  vwCl[ci]? = some (C, T, N) ∧ k < N ∧ Cond.fieldLink own idx (T k).1 (T k).2.1 (T k).2.2.1 ∈ Ts ∧ (∀ w ∈ u_ws C T N, w ∈ Ts) ∧ (∀ j, j < N → parseFieldDescriptor (T j).2.2.1 = some (ty j)) ∧
  (∀ a, a < N → ∀ b, b < N → a ≠ b → (T a).2.1 ≠ (T b).2.1) ∧ (b = 2 ∨ (T k).2.2.2 = false) ∧ (b = 0 → ty k = .int) ∧ (b = 1 → ty k = .boolean) ∧ (b = 3 → ty k = .byte)
def mCstOK (own : String) (F : mF) (ad : Nat → Nat) (args : Array Value) (s : State) : Prop := ∀ (idx : Nat) (v : mV), F.2.2.2.1 idx = some v → (∃ x, v = .inl x ∧ (Cond.constant own idx x).before args s = true) ∨ (∃ (c : Nat) (tx : String), v = .inr (some c) ∧ vk_R own idx tx (ad c) s)
def mStaOK (own : String) (F : mF) (ad : Nat → Nat) (A : Nat → Prop) (s : State) (Ts : List Cond) : Prop := ∀ (idx : Nat) (v : mV), F.2.2.2.2.1 idx = some v → ∃ C n d : String, va_Z C n d (mval ad v) A s s.heap ∧ Cond.fieldLink own idx C n d ∈ Ts
/-- the constants on the heap -/
def mStr (ad : Nat → Nat) (A : Nat → Prop) (U : State) (H : Heap) : Prop :=
  (∀ i : Nat, i < 17 → va_O "java/lang/String" (ad (1000 + i)) A U H ∧ va_OF "java/lang/String" "coder" "B" (.int 0) (ad (1000 + i)) A U H ∧ va_OF "java/lang/String" "value" "[B" (.ref (ad (1100 + i))) (ad (1000 + i)) A U H ∧ va_T .byte (ad (1100 + i)) (mRoB.getD i []).length (fun j => .int ((mRoB.getD i []).getD j 0)) A U H) ∧
  va_T .byte (ad 1200) 100 (fun j => .int (mDigT.getD j 0)) A U H ∧ va_T .byte (ad 1201) 100 (fun j => .int (mDigO.getD j 0)) A U H
theorem mStr.moved {ad : Nat → Nat} {A : Nat → Prop} {u U : State} {H : Heap} (hvm : u.vm.Alike U.vm) (h : mStr ad A u H) : mStr ad A U H :=
  ⟨fun i hi => ⟨va_O.moved hvm (h.1 i hi).1, va_OF.moved hvm (h.1 i hi).2.1, va_OF.moved hvm (h.1 i hi).2.2.1, va_T.moved hvm (h.1 i hi).2.2.2⟩, va_T.moved hvm h.2.1, va_T.moved hvm h.2.2⟩
theorem mStr.kept {ad : Nat → Nat} {A : Nat → Prop} {U : State} {H H1 : Heap} (h : mStr ad A U H) (hq : ∀ a : Nat, a < H.size → ¬ A a → H1[a]? = H[a]?) : mStr ad A U H1 :=
  ⟨fun i hi => ⟨(h.1 i hi).1.kept hq, (h.1 i hi).2.1.kept hq, (h.1 i hi).2.2.1.kept hq, (h.1 i hi).2.2.2.kept hq⟩, h.2.1.kept hq, h.2.2.kept hq⟩
theorem mStr.narrow {ad : Nat → Nat} {A B : Nat → Prop} {U : State} {H : Heap} (h : mStr ad A U H) (hAB : ∀ q, B q → A q) : mStr ad B U H :=
  ⟨fun i hi => ⟨(h.1 i hi).1.narrow hAB, (h.1 i hi).2.1.narrow hAB, (h.1 i hi).2.2.1.narrow hAB, (h.1 i hi).2.2.2.narrow hAB⟩, h.2.1.narrow hAB, h.2.2.narrow hAB⟩
/-- an array that is never written -/
theorem mStr.arr {ad : Nat → Nat} {A : Nat → Prop} {U : State} {H : Heap} (h : mStr ad A U H) {a : Nat} {l : List Int32} (ha : mRoA a = some l) : va_T .byte (ad a) l.length (fun j => .int (l.getD j 0)) A U H := by
  unfold mRoA at ha
  split at ha
  · rename_i h1
    simp only [Bool.and_eq_true, Nat.ble_eq] at h1
    have h2 : a < 1117 := by simpa using h1.2
    have h3 := (h.1 (a - 1100) (by omega)).2.2.2
    have e : mRoB.getD (a - 1100) [] = l := by rw [List.getD_eq_getElem?_getD, ha]; rfl
    rw [e, show 1100 + (a - 1100) = a by omega] at h3
    exact h3
  · split at ha
    · rename_i h2
      cases ha
      have : a = 1200 := by simpa using h2
      subst this
      exact h.2.1
    · split at ha
      · rename_i h2
        cases ha
        have : a = 1201 := by simpa using h2
        subst this
        exact h.2.2
      · cases ha
