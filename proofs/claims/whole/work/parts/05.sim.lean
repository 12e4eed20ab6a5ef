/-! ===== ONE STEP OF THE SMALL MACHINE IS ONE OF THE MACHINE'S ===== -/
def mTabs (pc : Nat) : Int → List Int → List (Int32 × Nat) → Bool
  | _, [], [] => true
  | lo, o :: os, q :: tl => decide (q.1.toInt = lo) && decide ((pc : Int) + o = (q.2 : Int)) && mTabs pc (lo + 1) os tl
  | _, _, _ => false
def mLks (pc : Nat) : List (Int × Int) → List (Int32 × Nat) → Bool
  | [], [] => true
  | a :: ps, q :: tl => decide (q.1.toInt = a.1) && decide ((pc : Int) + a.2 = (q.2 : Int)) && mLks pc ps tl
  | _, _ => false
theorem mTabs_sw {X : mS → Prop} {pc d : Nat} {x : Int32} {L : mL} {S : List mV} {M : mM} : ∀ {os : List Int} {tl : List (Int32 × Nat)} {lo : Int}, mTabs pc lo os tl = true → mSw X x d L S M tl →
    (∃ (o : Int) (t k : Nat), os[k]? = some o ∧ x.toInt = lo + k ∧ (pc : Int) + o = (t : Int) ∧ X (t, L, S, M)) ∨ ((x.toInt < lo ∨ lo + os.length ≤ x.toInt) ∧ X (d, L, S, M))
  | [], [], lo, _, k => Or.inr ⟨by
      have : lo + ([] : List Int).length = lo := by simp
      omega, k⟩
  | o :: os, q :: tl, lo, h, k => by
    simp only [mTabs, Bool.and_eq_true, decide_eq_true_eq] at h
    by_cases e : x = q.1
    · exact Or.inl ⟨o, q.2, 0, rfl, by rw [e, h.1.1]; simp, h.1.2, k.1 e⟩
    · rcases mTabs_sw h.2 (k.2 e) with ⟨o', t, i, h1, h2, h3, h4⟩ | ⟨h1, h2⟩
      · exact Or.inl ⟨o', t, i + 1, by simpa using h1, by rw [h2]; push_cast; omega, h3, h4⟩
      · refine Or.inr ⟨?_, h2⟩
        have hne : x.toInt ≠ lo := fun z => e (Int32.toInt_inj.mp (by rw [z, h.1.1]))
        have hlen : ((o :: os).length : Int) = (os.length : Int) + 1 := by simp
        omega
  | [], _ :: _, _, h, _ => by simp [mTabs] at h
  | _ :: _, [], _, h, _ => by simp [mTabs] at h
theorem mLks_sw {X : mS → Prop} {pc d : Nat} {x : Int32} {dflt : Int} {L : mL} {S : List mV} {M : mM} (hd : (pc : Int) + dflt = (d : Int)) : ∀ {ps : List (Int × Int)} {tl : List (Int32 × Nat)}, mLks pc ps tl = true → mSw X x d L S M tl →
    ∃ t : Nat, (pc : Int) + Op.lookupswitch.offset ps dflt x.toInt = (t : Int) ∧ X (t, L, S, M)
  | [], [], _, k => ⟨d, hd, k⟩
  | a :: ps, q :: tl, h, k => by
    simp only [mLks, Bool.and_eq_true, decide_eq_true_eq] at h
    obtain ⟨a1, a2⟩ := a
    by_cases e : x = q.1
    · exact ⟨q.2, by rw [Op.lookupswitch.offset_cons, if_pos (by rw [e]; exact h.1.1.symm)]; exact h.1.2, k.1 e⟩
    · obtain ⟨t, h1, h2⟩ := mLks_sw hd h.2 (k.2 e)
      exact ⟨t, by rw [lv_osw e h.1.1]; exact h1, h2⟩
  | [], _ :: _, h, _ => by simp [mLks] at h
  | _ :: _, [], h, _ => by simp [mLks] at h
/-- what a table's entry must say, beyond the decoded instruction -/
def mAux (pc : Nat) (e : mI) : Bool := match e.1 with
  | .iconst n => decide (Int32.ofInt n = e.2.2.2.1) && decide (e.2.1 = 1)
  | .bipush n => decide ((Int8.ofInt n).toInt32 = e.2.2.2.1) && decide (e.2.1 = 2)
  | .sipush n => decide ((Int16.ofInt n).toInt32 = e.2.2.2.1) && decide (e.2.1 = 3)
  | .ldc _ => decide (e.2.1 = 2)
  | .ldc_w _ => decide (e.2.1 = 3)
  | .iload_n k => decide ((k : Nat) = e.2.2.1) && decide (e.2.1 = 1)
  | .aload_n k => decide ((k : Nat) = e.2.2.1) && decide (e.2.1 = 1)
  | .istore_n k => decide ((k : Nat) = e.2.2.1) && decide (e.2.1 = 1)
  | .astore_n k => decide ((k : Nat) = e.2.2.1) && decide (e.2.1 = 1)
  | .iload i => decide (i = e.2.2.1) && decide (e.2.1 = 2)
  | .aload i => decide (i = e.2.2.1) && decide (e.2.1 = 2)
  | .istore i => decide (i = e.2.2.1) && decide (e.2.1 = 2)
  | .astore i => decide (i = e.2.2.1) && decide (e.2.1 = 2)
  | .iinc i n => (decide (i = e.2.2.1) && decide (Int32.ofInt n = e.2.2.2.1)) && decide (e.2.1 = 3)
  | .ifCond _ o => decide ((pc : Int) + o = (e.2.2.1 : Int)) && decide (e.2.1 = 3)
  | .if_icmp _ o => decide ((pc : Int) + o = (e.2.2.1 : Int)) && decide (e.2.1 = 3)
  | .goto o => decide ((pc : Int) + o = (e.2.2.1 : Int)) && decide (e.2.1 = 3)
  | .ifnull o => decide ((pc : Int) + o = (e.2.2.1 : Int)) && decide (e.2.1 = 3)
  | .ifnonnull o => decide ((pc : Int) + o = (e.2.2.1 : Int)) && decide (e.2.1 = 3)
  | .tableswitch d lo hi os => (decide ((pc : Int) + d = (e.2.2.1 : Int)) && decide (hi = lo + os.toList.length - 1)) && mTabs pc lo os.toList e.2.2.2.2
  | .lookupswitch d ps => (decide ((pc : Int) + d = (e.2.2.1 : Int)) && (ps.toList.zip (ps.toList.drop 1)).all (fun (a, next) => a.1 < next.1)) && mLks pc ps.toList e.2.2.2.2
  | .getfield _ => decide (e.2.1 = 3)
  | .putfield _ => decide (e.2.1 = 3)
  | .invokevirtual _ => decide (e.2.1 = 3)
  | .invokestatic _ => decide (e.2.1 = 3)
  | .invokespecial _ => decide (e.2.1 = 3)
  | _ => decide (e.2.1 = 1)
def mChk (cc : ByteArray) (pc : Nat) (e : mI) : Bool := decide (decode cc pc = .ok (e.1, e.2.1)) && mAux pc e
/-- fields: what the links and the class's table say -/
def mFldOK (own : String) (F : mF) (Ts : List Cond) : Prop := ∀ (idx ci k b : Nat), F.2.1 idx = some (ci, k, b) → ∃ (C : String) (T : u_T) (N : Nat) (ty : Nat → FieldType),
  vwCl[ci]? = some (C, T, N) ∧ k < N ∧ Cond.fieldLink own idx (T k).1 (T k).2.1 (T k).2.2.1 ∈ Ts ∧ (∀ w ∈ u_ws C T N, w ∈ Ts) ∧ (∀ j, j < N → parseFieldDescriptor (T j).2.2.1 = some (ty j)) ∧
  (∀ a, a < N → ∀ b, b < N → a ≠ b → (T a).2.1 ≠ (T b).2.1) ∧ (b = 2 ∨ (T k).2.2.2 = false) ∧ (b = 0 → ty k = .int) ∧ (b = 1 → ty k = .boolean) ∧ (b = 3 → ty k = .byte)
def mCstOK (own : String) (F : mF) (ad : Nat → Nat) (args : Array Value) (s : State) : Prop := ∀ (idx : Nat) (v : mV), F.2.2.2.1 idx = some v → (∃ x, v = .inl x ∧ (Cond.constant own idx x).before args s = true) ∨ (∃ (c : Nat) (tx : String), v = .inr (some c) ∧ vk_R own idx tx (ad c) s)
