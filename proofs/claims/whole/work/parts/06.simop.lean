section MSIM
variable {p : Program} {l : Launch} {e : Env} {R : Room} {s : State} {m : MethodId} {args : Array Value} {below : List Frame} {meth : Method} {c : Code} {cells slots : Nat} {Q : State → Prop}
variable {cc : ByteArray} {D : va_G} {A : Nat → Prop} {ad : Nat → Nat} {cy : Nat → ClassId} {SH : List mH} {own : String} {Ts : List Cond} {nL : Nat} {F : mF} {P : mP}
/-- the machine's goal at a state of the small one -/
def mX (p : Program) (l : Launch) (e : Env) (R : Room) (s : State) (m : MethodId) (args : Array Value) (below : List Frame) (meth : Method) (c : Code) (cells slots : Nat) (Q : State → Prop) (D : va_G) (A : Nat → Prop) (ad : Nat → Nat) (cy : Nat → ClassId) (SH : List mH) (nL : Nat) (σ : mS) : Prop :=
  ∀ (H : Heap) (locs : List Loc) (ls : Array Slot), va_P D vwCl (mWs ad cy SH σ.2.2.2) H → va_S A s.heap H locs → mLH ls nL ad σ.2.1 → W p l e R s m args below meth c H locs cells slots Q (F0 m σ.1 ls (σ.2.2.1.map (mval ad)))
/-- the instruction of a call, by its key -/
def mIns (key : Nat) : Instr := match key % 3 with
  | 0 => .invokevirtual (key / 3)
  | 1 => .invokestatic (key / 3)
  | _ => .invokespecial (key / 3)
/-- a call, as the machine makes it -/
def mCallOK (p : Program) (l : Launch) (e : Env) (R : Room) (s : State) (m : MethodId) (args : Array Value) (below : List Frame) (meth : Method) (c : Code) (cells slots : Nat) (Q : State → Prop) (D : va_G) (A : Nat → Prop) (ad : Nat → Nat) (cy : Nat → ClassId) (SH : List mH) (nL : Nat) (cc : ByteArray) (key n : Nat) (T : mT) : Prop :=
  ∀ (pc : Nat) (H : Heap) (locs : List Loc) (ls : Array Slot) (M : mM) (as rest : List mV) (Po : mP), decode cc pc = .ok (mIns key, 3) → va_P D vwCl (mWs ad cy SH M) H → va_S A s.heap H locs → ls.size = nL → as.length = n → rest.length ≤ 8 → T as M Po →
    (∀ (r : Option mV) (M' : mM) (H' : Heap) (locs' : List Loc), va_P D vwCl (mWs ad cy SH M') H' → va_S A s.heap H' locs' → Po r M' → W p l e R s m args below meth c H' locs' cells slots Q (F0 m (pc + 3) ls ((mRes r rest).map (mval ad)))) →
    W p l e R s m args below meth c H locs cells slots Q (F0 m pc ls ((as.reverse ++ rest).map (mval ad)))
def mCalOK (p : Program) (l : Launch) (e : Env) (R : Room) (s : State) (m : MethodId) (args : Array Value) (below : List Frame) (meth : Method) (c : Code) (cells slots : Nat) (Q : State → Prop) (D : va_G) (A : Nat → Prop) (ad : Nat → Nat) (cy : Nat → ClassId) (SH : List mH) (nL : Nat) (cc : ByteArray) (F : mF) : Prop :=
  ∀ (key n : Nat) (T : mT), F.2.2.1 key = some (n, T) → mCallOK p l e R s m args below meth c cells slots Q D A ad cy SH nL cc key n T
theorem mIns_v (k : Nat) : mIns (3 * k) = .invokevirtual k := by
  unfold mIns
  rw [show 3 * k % 3 = 0 by omega, show 3 * k / 3 = k by omega]
  rfl
theorem mIns_s (k : Nat) : mIns (3 * k + 1) = .invokestatic k := by
  unfold mIns
  rw [show (3 * k + 1) % 3 = 1 by omega, show (3 * k + 1) / 3 = k by omega]
  rfl
theorem mIns_p (k : Nat) : mIns (3 * k + 2) = .invokespecial k := by
  unfold mIns
  rw [show (3 * k + 2) % 3 = 2 by omega, show (3 * k + 2) / 3 = k by omega]
  rfl
def mEndOK (s : State) (args : Array Value) (D : va_G) (A : Nat → Prop) (ad : Nat → Nat) (cy : Nat → ClassId) (SH : List mH) (P : mP) (Qc : Array Value → State → Outcome → State → Prop) : Prop :=
  ∀ (r : Option mV) (M : mM) (H : Heap) (locs : List Loc), P r M → va_P D vwCl (mWs ad cy SH M) H → va_S A s.heap H locs → ∀ t : State, t.heap = H → s.WarmedH t.vm → Qc args s (.returned (r.map (mval ad))) t
theorem mLdcwS {rest : List Value} {pc : Nat} {ls : Array Slot} {H : Heap} {locs : List Loc} (hexec : p.tables.exec = Jvm.exec) (hb : c.code = cc) {own tx : String} {index q : Nat} (hown : s.vm.findClass own = some m.cls) (hZ : vk_R own index tx q s) (hdg : decode cc pc = .ok (.ldc_w index, 3))
    (k : W p l e R s m args below meth c H locs cells slots Q (F0 m (pc + 3) ls (.ref q :: rest))) : W p l e R s m args below meth c H locs cells slots Q (F0 m pc ls rest) := by
  intro T hT X
  obtain ⟨t, a1, b1⟩ := k T hT X
  refine ⟨t, ?_, b1⟩
  obtain ⟨k, cf, i, a', hk, hcf, hcp, -, hr, hev'⟩ := Cond.stringRef_spec hown hZ.1
  cases hZ.2.symm.trans hev'
  obtain ⟨k', hk', he⟩ := X.warmed.alike.2.2 _ _ hk
  have hr' : k'.resolved[index]? = some (some (.string q)) := by
    rcases X.warmed.entry hk hk' index with h | ⟨h, -⟩
    · rw [h]; exact hr
    · rw [hr] at h; cases h
  subst hb
  jvm_step X.here [hexec, hdg, ldc_w.wp_string (e := e) (s := T) (f := F0 m pc ls rest) X.here.top hk' (by rw [he]; exact hcf) hcp hr']
  exact a1
theorem mAald {ws : va_W} {H : Heap} {locs : List Loc} {pc : Nat} {ls : Array Slot} {rest : List Value} {tys : List (ClassId × FieldType)} {cl : List vw_C} {a : Nat} (hexec : p.tables.exec = Jvm.exec) (hb : c.code = cc) (hK : va_K D cl tys s) (hP : va_P D cl ws H) (q0 t0 : Nat) {cA : ClassId} {ty : FieldType} {n : Nat} {f : Nat → Option Nat} (ha : ws[q0]? = some (a, .inl (cA, n, .inr (.inr (.inr (.inr f)))))) (ht : tys[t0]? = some (cA, ty)) (hty : ty.isReference = true) {i : Int32} (hin : vp_in i n) (hdg : decode cc pc = .ok (.aaload, 1))
    (kk : W p l e R s m args below meth c H locs cells slots Q (F0 m (pc + 1) ls (va_rf (f i.toNatClampNeg) :: rest))) : W p l e R s m args below meth c H locs cells slots Q (F0 m pc ls (.int i :: .ref a :: rest)) := by
  have hlt : i.toNatClampNeg < n := Nat.not_le.mp fun q => hin (Or.inr q)
  exact W.aald (v := va_rf (f i.toNatClampNeg)) (ty := ty) hexec hb (hP q0 _ ha) ((hK.2 t0 _ ht).1 n (fun j => va_rf (f j))) hty (fun q => by cases q) (by show ¬ (i < 0 ∨ (arrV _ _ _).slots.size ≤ _); rw [arrV_size]; exact hin) (by show (arrV _ _ _).slots[_]? = _; rw [arrV_read _ _ hlt]) rfl rfl hdg kk
set_option maxHeartbeats 8000000 in
theorem mOp_sim {Qc : Array Value → State → Outcome → State → Prop} (hx : p.tables.exec = Jvm.exec) (hb : c.code = cc) (hml : c.maxLocals = nL) (hr : meth.sig.returnType = F.2.2.2.2.2) (hlk : meth.locks = false) (hts : ∀ w ∈ Ts, w.before args s = true) (hown : s.vm.findClass own = some m.cls)
    (hK : va_K D vwCl (mTys cy) s) (hD : ∀ M, va_D A (mWs ad cy SH M)) (hfld : mFldOK own F Ts) (hcst : mCstOK own F ad args s) (hsta : mStaOK own F ad A s Ts) (hstr : mStr ad A s s.heap) (hcal : mCalOK p l e R s m args below meth c cells slots (MQ below Qc args s cells slots A) D A ad cy SH nL cc F) (hend : mEndOK s args D A ad cy SH P Qc)
    {x : mI} {pc : Nat} {L : mL} {S : List mV} {M : mM} (hdg : decode cc pc = .ok (x.1, x.2.1)) (haux : mAux pc x = true)
    (w : mOp SH F P (mX p l e R s m args below meth c cells slots (MQ below Qc args s cells slots A) D A ad cy SH nL) x pc L S M) : mX p l e R s m args below meth c cells slots (MQ below Qc args s cells slots A) D A ad cy SH nL (pc, L, S, M) := by
  obtain ⟨i, n, a, v, tl⟩ := x
  intro H locs ls hP hS hL
  dsimp only at hP hL ⊢
  cases i
  case iconst k =>
    simp only [mAux, Bool.and_eq_true, decide_eq_true_eq] at haux
    obtain ⟨h1, rfl⟩ := haux
    exact lv_iconst hx hb hdg h1 (w H locs ls hP hS hL)
  case bipush k =>
    simp only [mAux, Bool.and_eq_true, decide_eq_true_eq] at haux
    obtain ⟨h1, rfl⟩ := haux
    exact lv_bipush hx hb hdg h1 (w H locs ls hP hS hL)
  case sipush k =>
    simp only [mAux, Bool.and_eq_true, decide_eq_true_eq] at haux
    obtain ⟨h1, rfl⟩ := haux
    exact lv_sipush hx hb hdg h1 (w H locs ls hP hS hL)
  case ldc k =>
    simp only [mAux, decide_eq_true_eq] at haux
    subst haux
    simp only [mOp] at w
    split at w
    · rename_i u hu
      rcases hcst k u hu with ⟨y, rfl, h2⟩ | ⟨q, tx, rfl, h2⟩
      · exact lv_ldc hx hb hown h2 hdg (w H locs ls hP hS hL)
      · exact va_ldcS hx hb hown h2 hdg (w H locs ls hP hS hL)
    · exact w.elim
  case aconst_null =>
    simp only [mAux, decide_eq_true_eq] at haux
    subst haux
    exact lv_null hx hb hdg (w H locs ls hP hS hL)
  case iload_n k =>
    simp only [mAux, Bool.and_eq_true, decide_eq_true_eq] at haux
    obtain ⟨h1, rfl⟩ := haux
    simp only [mOp, mLd] at w
    split at w
    · rename_i y hv
      exact lv_iload_n hx hb hdg h1 (hL.2.2.2 _ _ hv) (w H locs ls hP hS hL)
    · exact w.elim
  case iload k =>
    simp only [mAux, Bool.and_eq_true, decide_eq_true_eq] at haux
    obtain ⟨rfl, rfl⟩ := haux
    simp only [mOp, mLd] at w
    split at w
    · rename_i y hv
      exact lv_iload hx hb hdg (hL.2.2.2 _ _ hv) (w H locs ls hP hS hL)
    · exact w.elim
  case aload_n k =>
    simp only [mAux, Bool.and_eq_true, decide_eq_true_eq] at haux
    obtain ⟨h1, rfl⟩ := haux
    simp only [mOp, mLa] at w
    split at w
    · rename_i y hv
      cases y with
      | none => exact lv_aload_nN hx hb hdg h1 (hL.2.2.2 _ _ hv) (w H locs ls hP hS hL)
      | some q => exact lv_aload_n hx hb hdg h1 (hL.2.2.2 _ _ hv) (w H locs ls hP hS hL)
    · exact w.elim
  case aload k =>
    simp only [mAux, Bool.and_eq_true, decide_eq_true_eq] at haux
    obtain ⟨rfl, rfl⟩ := haux
    simp only [mOp, mLa] at w
    split at w
    · rename_i y hv
      cases y with
      | none => exact lv_aloadN hx hb hdg (hL.2.2.2 _ _ hv) (w H locs ls hP hS hL)
      | some q => exact lv_aload hx hb hdg (hL.2.2.2 _ _ hv) (w H locs ls hP hS hL)
    · exact w.elim
  case istore_n k =>
    simp only [mAux, Bool.and_eq_true, decide_eq_true_eq] at haux
    obtain ⟨h1, rfl⟩ := haux
    simp only [mOp, mSt] at w
    split at w
    · split at w
      · rename_i hlt
        have hi : a < nL := by rw [← hL.2.2.1]; simpa using hlt
        exact lv_istore_n hx hb hdg h1 hL.has hi rfl (fun ls' h' => w H locs ls' hP hS (hL.set hi h'))
      · exact w.elim
    · exact w.elim
  case istore k =>
    simp only [mAux, Bool.and_eq_true, decide_eq_true_eq] at haux
    obtain ⟨rfl, rfl⟩ := haux
    simp only [mOp, mSt] at w
    split at w
    · split at w
      · rename_i hlt
        have hi : k < nL := by rw [← hL.2.2.1]; simpa using hlt
        exact lv_istore hx hb hdg hL.has hi rfl (fun ls' h' => w H locs ls' hP hS (hL.set hi h'))
      · exact w.elim
    · exact w.elim
  case astore_n k =>
    simp only [mAux, Bool.and_eq_true, decide_eq_true_eq] at haux
    obtain ⟨h1, rfl⟩ := haux
    simp only [mOp, mSa] at w
    split at w
    · rename_i y r
      split at w
      · rename_i hlt
        have hi : a < nL := by rw [← hL.2.2.1]; simpa using hlt
        cases y with
        | none => exact lv_astore_nN hx hb hdg h1 hL.has hi rfl (fun ls' h' => w H locs ls' hP hS (hL.set hi h'))
        | some q => exact lv_astore_n hx hb hdg h1 hL.has hi rfl (fun ls' h' => w H locs ls' hP hS (hL.set hi h'))
      · exact w.elim
    · exact w.elim
  case astore k =>
    simp only [mAux, Bool.and_eq_true, decide_eq_true_eq] at haux
    obtain ⟨rfl, rfl⟩ := haux
    simp only [mOp, mSa] at w
    split at w
    · rename_i y r
      split at w
      · rename_i hlt
        have hi : k < nL := by rw [← hL.2.2.1]; simpa using hlt
        cases y with
        | none => exact lv_astoreN hx hb hdg hL.has hi rfl (fun ls' h' => w H locs ls' hP hS (hL.set hi h'))
        | some q => exact lv_astore hx hb hdg hL.has hi rfl (fun ls' h' => w H locs ls' hP hS (hL.set hi h'))
      · exact w.elim
    · exact w.elim
  case iinc k z =>
    simp only [mAux, Bool.and_eq_true, decide_eq_true_eq] at haux
    obtain ⟨⟨rfl, h2⟩, rfl⟩ := haux
    simp only [mOp] at w
    split at w
    · rename_i y hv
      have hi : k < nL := by rw [← hL.2.2.1]; exact (List.getElem?_eq_some_iff.mp hv).1
      obtain ⟨j, hj⟩ := List.getElem?_of_mem (mAs_mem (ad := ad) (q := (k, Value.int y)).mpr ⟨_, hv, rfl⟩)
      exact lv_iinc (v := y + v) hx hb hdg hL.has hj (by rw [h2]) hi rfl (fun ls' h' => w H locs ls' hP hS (hL.set hi h'))
    · exact w.elim
  case iadd | isub | imul | ishl | ishr | iand | ior | ixor =>
    simp only [mAux, decide_eq_true_eq] at haux
    subst haux
    simp only [mOp, mBin] at w
    split at w
    · first
        | exact lv_iadd hx hb hdg (w H locs ls hP hS hL)
        | exact lv_isub hx hb hdg (w H locs ls hP hS hL)
        | exact lv_imul hx hb hdg (w H locs ls hP hS hL)
        | exact lv_ishl hx hb hdg (w H locs ls hP hS hL)
        | exact lv_ishr hx hb hdg (w H locs ls hP hS hL)
        | exact lv_iand hx hb hdg (w H locs ls hP hS hL)
        | exact lv_ior hx hb hdg (w H locs ls hP hS hL)
        | exact lv_ixor hx hb hdg (w H locs ls hP hS hL)
    · exact w.elim
  case iushr =>
    simp only [mAux, decide_eq_true_eq] at haux
    subst haux
    simp only [mOp, mBin] at w
    split at w
    · exact lv_iushr hx hb hdg rfl (w H locs ls hP hS hL)
    · exact w.elim
  case idiv =>
    simp only [mAux, decide_eq_true_eq] at haux
    subst haux
    simp only [mOp, mDiv] at w
    split at w
    · exact lv_idiv hx hb hdg w.1 (w.2 H locs ls hP hS hL)
    · exact w.elim
  case irem =>
    simp only [mAux, decide_eq_true_eq] at haux
    subst haux
    simp only [mOp, mDiv] at w
    split at w
    · exact lv_irem hx hb hdg w.1 (w.2 H locs ls hP hS hL)
    · exact w.elim
  case ineg =>
    simp only [mAux, decide_eq_true_eq] at haux
    subst haux
    simp only [mOp, mUn] at w
    split at w
    · exact lv_ineg hx hb hdg (w H locs ls hP hS hL)
    · exact w.elim
  case i2b =>
    simp only [mAux, decide_eq_true_eq] at haux
    subst haux
    simp only [mOp, mUn] at w
    split at w
    · exact lv_i2b hx hb hdg rfl (w H locs ls hP hS hL)
    · exact w.elim
  case i2c =>
    simp only [mAux, decide_eq_true_eq] at haux
    subst haux
    simp only [mOp, mUn] at w
    split at w
    · exact lv_i2c hx hb hdg rfl (w H locs ls hP hS hL)
    · exact w.elim
  case ldc_w k =>
    simp only [mAux, decide_eq_true_eq] at haux
    subst haux
    simp only [mOp] at w
    split at w
    · rename_i u hu
      rcases hcst k u hu with ⟨y, rfl, h2⟩ | ⟨q, tx, rfl, h2⟩
      · exact lv_ldcw hx hb hown h2 hdg (w H locs ls hP hS hL)
      · exact mLdcwS hx hb hown h2 hdg (w H locs ls hP hS hL)
    · exact w.elim
  case dup =>
    simp only [mAux, decide_eq_true_eq] at haux
    subst haux
    simp only [mOp] at w
    split at w
    · exact lv_dup hx hb hdg (mval_cat _ _) (w H locs ls hP hS hL)
    · exact w.elim
  case pop =>
    simp only [mAux, decide_eq_true_eq] at haux
    subst haux
    simp only [mOp] at w
    split at w
    · exact lv_pop hx hb hdg (mval_cat _ _) (w H locs ls hP hS hL)
    · exact w.elim
  case dup_x1 =>
    simp only [mAux, decide_eq_true_eq] at haux
    subst haux
    simp only [mOp] at w
    split at w
    · exact lv_dup_x1 hx hb hdg (mval_cat _ _) (mval_cat _ _) (w H locs ls hP hS hL)
    · exact w.elim
  case dup2 =>
    simp only [mAux, decide_eq_true_eq] at haux
    subst haux
    simp only [mOp] at w
    split at w
    · exact lv_dup2_11 hx hb hdg (mval_cat _ _) (mval_cat _ _) (w H locs ls hP hS hL)
    · exact w.elim
  case getstatic k =>
    simp only [mAux, decide_eq_true_eq] at haux
    subst haux
    simp only [mOp] at w
    split at w
    · rename_i u hu
      obtain ⟨C, nm, d, h1, h2⟩ := hsta k u hu
      exact va_gets hx hb h1 hS hown (hts _ h2) (fun _ z => z) hdg (w H locs ls hP hS hL)
    · exact w.elim
  case getfield k =>
    simp only [mAux, decide_eq_true_eq] at haux
    subst haux
    simp only [mOp, mGet] at w
    split at w
    · rename_i q r
      split at w
      · rename_i hro
        have hq : 1000 ≤ q ∧ q < 1017 := by simpa [mRoS] using hro
        obtain ⟨-, hs1, hs2, -⟩ := hstr.1 (q - 1000) (by omega)
        rw [show 1000 + (q - 1000) = q by omega] at hs1 hs2
        split at w
        · rename_i z hz
          obtain ⟨ci, fk, b⟩ := z
          obtain ⟨C, T, N, ty, h1, h2, h3, h4, -⟩ := hfld k ci fk b hz
          split at w
          · rename_i e1 e2
            dsimp only at e1 e2
            subst e1; subst e2
            cases h1
            rw [show 1100 + (q - 1000) = q + 100 by omega] at hs2
            exact vk_getf hx hb hs2 hS hown (hts _ h3) (fun _ z => z) hdg (w H locs ls hP hS hL)
          · rename_i e1 e2
            dsimp only at e1 e2
            subst e1; subst e2
            cases h1
            exact vk_getf hx hb hs1 hS hown (hts _ h3) (fun _ z => z) hdg (w H locs ls hP hS hL)
          · exact w.elim
        · exact w.elim
      · split at w
        · rename_i h z hh hz
          obtain ⟨ci, fk, b⟩ := z
          obtain ⟨C, T, N, ty, h1, h2, h3, h4, -⟩ := hfld k ci fk b hz
          have he := mWs_get (ad := ad) (cy := cy) (M := M) hh
          split at w
          · rename_i h5 h6
            obtain ⟨kd, sz, rs⟩ := h
            obtain rfl : kd = ci + 5 := by simpa using h5
            exact va_get hx hb hts h4 hown hK hP q he h1 fk h2 (hts _ h3) (fun _ z => z) (by rw [mFld_int (ad := ad) (f := M q) (k := 0) h6, Nat.zero_add]; rfl) hdg (w H locs ls hP hS hL)
          · rename_i c2 h5 h6
            obtain ⟨kd, sz, rs⟩ := h
            obtain rfl : kd = ci + 5 := by simpa using h5
            exact va_get hx hb hts h4 hown hK hP q he h1 fk h2 (hts _ h3) (fun _ z => z) (mFld_ref (ad := ad) (f := M q) (k := 0) h6) hdg (w H locs ls hP hS hL)
          · exact w.elim
        · exact w.elim
    · exact w.elim
  case putfield k =>
    simp only [mAux, decide_eq_true_eq] at haux
    subst haux
    simp only [mOp, mPut] at w
    split at w
    · rename_i x q r
      split at w
      · rename_i h z hh hz
        obtain ⟨ci, fk, b⟩ := z
        obtain ⟨C, T, N, ty, h1, h2, h3, h4, h5, h6, h7, h8, h9, h10⟩ := hfld k ci fk b hz
        have he := mWs_get (ad := ad) (cy := cy) (M := M) hh
        split at w
        · rename_i h11 h12
          obtain ⟨kd, sz, rs⟩ := h
          obtain rfl : kd = ci + 5 := by simpa using h11
          have hset : ∀ H1 : Heap, va_P D vwCl ((mWs ad cy SH M).set q (ad q, .inr (ci, (mFld ad (M q) 0 rs).set fk (.int x)))) H1 → va_P D vwCl (mWs ad cy SH (mW1 M q fk x)) H1 := by
            intro H1 h
            rw [mFld_set h12, Nat.zero_add] at h
            rw [mW1, ← mWs_set hh]
            exact h
          have hlen : fk < (mFld ad (M q) 0 rs).length := by rw [mFld_len]; exact (List.getElem?_eq_some_iff.mp h12).1
          split at w
          · rename_i hb0
            dsimp only at hb0
            subst hb0
            exact va_put hx hb hts h4 ty h5 h6 hown hK hP (hD M) hS q he h1 fk h2 (hts _ h3) (fun _ z => z) (h7.resolve_left (by decide)) (h5 fk h2) (ty := ty fk) (by rw [h8 rfl]; rfl) (by rw [h8 rfl]; rfl) hlen hdg (fun H1 locs1 hP1 _ hS1 => w H1 locs1 ls (hset H1 hP1) hS1 hL)
          · rename_i hb0
            dsimp only at hb0
            subst hb0
            refine va_put hx hb hts h4 ty h5 h6 hown hK hP (hD M) hS q he h1 fk h2 (hts _ h3) (fun _ z => z) (h7.resolve_left (by decide)) (h5 fk h2) (ty := ty fk) ?_ ?_ hlen hdg (fun H1 locs1 hP1 _ hS1 => w.2 H1 locs1 ls (hset H1 hP1) hS1 hL)
            · rw [h9 rfl]
              rcases w.1 with rfl | rfl <;> rfl
            · rw [h9 rfl]
              rcases w.1 with rfl | rfl <;> rfl
          · rename_i hb0
            dsimp only at hb0
            subst hb0
            refine va_put hx hb hts h4 ty h5 h6 hown hK hP (hD M) hS q he h1 fk h2 (hts _ h3) (fun _ z => z) (h7.resolve_left (by decide)) (h5 fk h2) (ty := ty fk) ?_ ?_ hlen hdg (fun H1 locs1 hP1 _ hS1 => w.2 H1 locs1 ls (hset H1 hP1) hS1 hL)
            · rw [h10 rfl, ← w.1]
              exact pk_nb x
            · rw [h10 rfl, ← w.1]
              exact pk_fb x
          · exact w.elim
        · exact w.elim
      · exact w.elim
    · exact w.elim
  case iaload =>
    simp only [mAux, decide_eq_true_eq] at haux
    subst haux
    simp only [mOp] at w
    split at w
    · simp only [mArr] at w
      split at w
      · rename_i i q r
        split at w
        · rename_i h hh
          have he := mWs_get (ad := ad) (cy := cy) (M := M) hh
          split at w
          · rename_i h5
            obtain ⟨kd, sz, rs⟩ := h
            obtain rfl : kd = 0 := by simpa using h5
            exact va_iald hx hb hK hP q 0 he rfl w.1 hdg (w.2 H locs ls hP hS hL)
          · exact w.elim
        · exact w.elim
      · exact w.elim
    · simp only [mArrX] at w
      split at w
      · rename_i i q r
        obtain ⟨sz, rs, hh, w1, w2⟩ := w
        have he := mWs_get (ad := ad) (cy := cy) (M := M) hh
        exact va_iald hx hb hK hP q 0 he rfl w1 hdg (w2 H locs ls hP hS hL)
      · exact w.elim
  case baload =>
    simp only [mAux, decide_eq_true_eq] at haux
    subst haux
    simp only [mOp, mBal] at w
    split at w
    · rename_i i q r
      split at w
      · rename_i lst hro
        exact va_tb hx hb (hstr.arr hro) hS w.1 rfl hdg (w.2 H locs ls hP hS hL)
      · split at w
        · rename_i h hh
          have he := mWs_get (ad := ad) (cy := cy) (M := M) hh
          split at w
          · rename_i h5
            obtain ⟨kd, sz, rs⟩ := h
            obtain rfl : kd = 3 := by simpa using h5
            exact va_bald hx hb hK hP q 3 he rfl w.1 hdg (w.2 H locs ls hP hS hL)
          · exact w.elim
        · exact w.elim
    · exact w.elim
  case iastore =>
    simp only [mAux, decide_eq_true_eq] at haux
    subst haux
    simp only [mOp] at w
    split at w
    · simp only [mArs] at w
      split at w
      · rename_i x i q r
        split at w
        · rename_i h hh
          have he := mWs_get (ad := ad) (cy := cy) (M := M) hh
          split at w
          · rename_i h5
            obtain ⟨kd, sz, rs⟩ := h
            obtain rfl : kd = 0 := by simpa using h5
            exact va_iast hx hb hK hP (hD M) hS q 0 he rfl w.1 hdg (fun H1 locs1 hP1 _ hS1 => w.2 H1 locs1 ls (by rw [mW1, ← mWs_set hh]; exact hP1) hS1 hL)
          · exact w.elim
        · exact w.elim
      · exact w.elim
    · simp only [mArsX] at w
      split at w
      · rename_i x i q r
        obtain ⟨sz, rs, hh, w1, w2⟩ := w
        have he := mWs_get (ad := ad) (cy := cy) (M := M) hh
        exact va_iast hx hb hK hP (hD M) hS q 0 he rfl w1 hdg (fun H1 locs1 hP1 _ hS1 => w2 H1 locs1 ls (by rw [mW1, ← mWs_set hh]; exact hP1) hS1 hL)
      · exact w.elim
  case bastore =>
    simp only [mAux, decide_eq_true_eq] at haux
    subst haux
    simp only [mOp, mArs] at w
    split at w
    · rename_i x i q r
      split at w
      · rename_i h hh
        have he := mWs_get (ad := ad) (cy := cy) (M := M) hh
        split at w
        · rename_i h5
          obtain ⟨kd, sz, rs⟩ := h
          obtain rfl : kd = 3 := by simpa using h5
          exact va_bast hx hb hK hP (hD M) hS q 3 he rfl w.1 hdg (fun H1 locs1 hP1 _ hS1 => w.2 H1 locs1 ls (by rw [mW1, ← mWs_set hh]; exact hP1) hS1 hL)
        · exact w.elim
      · exact w.elim
    · exact w.elim
  case aaload =>
    simp only [mAux, decide_eq_true_eq] at haux
    subst haux
    simp only [mOp] at w
    split at w
    · simp only [mArq] at w
      split at w
      · rename_i i q r
        split at w
        · rename_i h hh
          have he := mWs_get (ad := ad) (cy := cy) (M := M) hh
          split at w
          · rename_i h5
            obtain ⟨kd, sz, rs⟩ := h
            obtain rfl : kd = 1 := h5
            exact mAald hx hb hK hP q 1 he rfl (by rfl) w.1 hdg (w.2 H locs ls hP hS hL)
          · rename_i h5
            obtain ⟨kd, sz, rs⟩ := h
            obtain rfl : kd = 2 := h5
            exact mAald hx hb hK hP q 2 he rfl (by rfl) w.1 hdg (w.2 H locs ls hP hS hL)
          · exact w.elim
        · exact w.elim
      · exact w.elim
    · simp only [mArqX] at w
      split at w
      · rename_i i q r
        obtain ⟨sz, k, c2, rs, hh, rfl, h1, h2, h3, w2⟩ := w
        have he := mWs_get (ad := ad) (cy := cy) (M := M) hh
        refine mAald hx hb hK hP q 1 he rfl (by rfl) (vp_in_nI h1 h2) hdg ?_
        dsimp only
        rw [nI_clamp (by omega), h3]
        exact w2 H locs ls hP hS hL
      · exact w.elim
  case arraylength =>
    simp only [mAux, decide_eq_true_eq] at haux
    subst haux
    simp only [mOp] at w
    split at w
    · simp only [mLen] at w
      split at w
      · rename_i q r
        split at w
        · rename_i lst hro
          exact va_tlen hx hb (hstr.arr hro) hS rfl hdg (w H locs ls hP hS hL)
        · split at w
          · rename_i h hh
            have he := mWs_get (ad := ad) (cy := cy) (M := M) hh
            split at w
            · rename_i h5
              obtain ⟨kd, sz, rs⟩ := h
              have h6 : kd < 4 := by simpa using h5
              obtain rfl | rfl | rfl | rfl : kd = 0 ∨ kd = 1 ∨ kd = 2 ∨ kd = 3 := by omega
              · exact va_alen hx hb hK hP q 0 he rfl rfl hdg (w H locs ls hP hS hL)
              · exact va_alen hx hb hK hP q 1 he rfl rfl hdg (w H locs ls hP hS hL)
              · exact va_alen hx hb hK hP q 2 he rfl rfl hdg (w H locs ls hP hS hL)
              · exact va_alen hx hb hK hP q 3 he rfl rfl hdg (w H locs ls hP hS hL)
            · exact w.elim
          · exact w.elim
      · exact w.elim
    · simp only [mLenX] at w
      split at w
      · rename_i q r
        obtain ⟨sz, rs, -, hh, w2⟩ := w
        have he := mWs_get (ad := ad) (cy := cy) (M := M) hh
        exact va_alen hx hb hK hP q 0 he rfl rfl hdg (w2 H locs ls hP hS hL)
      · exact w.elim
  case ifCond k o =>
    simp only [mAux, Bool.and_eq_true, decide_eq_true_eq] at haux
    obtain ⟨h1, rfl⟩ := haux
    cases k <;> simp only [mOp, mIf1] at w <;> split at w
    all_goals first
      | exact w.elim
      | exact lv_if_eq hx hb hdg h1 (fun z => w.1 z H locs ls hP hS hL) (fun z => w.2 z H locs ls hP hS hL)
      | exact lv_if_ne hx hb hdg h1 (fun z => w.1 z H locs ls hP hS hL) (fun z => w.2 (fun y => y z) H locs ls hP hS hL)
      | exact lv_if_lt hx hb hdg h1 (fun z => w.1 z H locs ls hP hS hL) (fun z => w.2 z H locs ls hP hS hL)
      | exact lv_if_ge hx hb hdg h1 (fun z => w.1 z H locs ls hP hS hL) (fun z => w.2 z H locs ls hP hS hL)
      | exact lv_if_gt hx hb hdg h1 (fun z => w.1 z H locs ls hP hS hL) (fun z => w.2 z H locs ls hP hS hL)
      | exact lv_if_le hx hb hdg h1 (fun z => w.1 z H locs ls hP hS hL) (fun z => w.2 z H locs ls hP hS hL)
  case if_icmp k o =>
    simp only [mAux, Bool.and_eq_true, decide_eq_true_eq] at haux
    obtain ⟨h1, rfl⟩ := haux
    cases k <;> simp only [mOp, mIf2] at w <;> split at w
    all_goals first
      | exact w.elim
      | exact lv_icmp_eq hx hb hdg h1 (fun z => w.1 z H locs ls hP hS hL) (fun z => w.2 z H locs ls hP hS hL)
      | exact lv_icmp_ne hx hb hdg h1 (fun z => w.1 z H locs ls hP hS hL) (fun z => w.2 (fun y => y z) H locs ls hP hS hL)
      | exact lv_icmp_lt hx hb hdg h1 (fun z => w.1 z H locs ls hP hS hL) (fun z => w.2 z H locs ls hP hS hL)
      | exact lv_icmp_ge hx hb hdg h1 (fun z => w.1 z H locs ls hP hS hL) (fun z => w.2 z H locs ls hP hS hL)
      | exact lv_icmp_gt hx hb hdg h1 (fun z => w.1 z H locs ls hP hS hL) (fun z => w.2 z H locs ls hP hS hL)
      | exact lv_icmp_le hx hb hdg h1 (fun z => w.1 z H locs ls hP hS hL) (fun z => w.2 z H locs ls hP hS hL)
  case goto o =>
    simp only [mAux, Bool.and_eq_true, decide_eq_true_eq] at haux
    obtain ⟨h1, rfl⟩ := haux
    exact lv_goto hx hb hdg h1 (w H locs ls hP hS hL)
  case ifnull o =>
    simp only [mAux, Bool.and_eq_true, decide_eq_true_eq] at haux
    obtain ⟨h1, rfl⟩ := haux
    simp only [mOp, mNul] at w
    split at w
    · exact lv_ifnullN hx hb hdg h1 (w H locs ls hP hS hL)
    · exact lv_ifnull hx hb hdg (w H locs ls hP hS hL)
    · exact w.elim
  case ifnonnull o =>
    simp only [mAux, Bool.and_eq_true, decide_eq_true_eq] at haux
    obtain ⟨h1, rfl⟩ := haux
    simp only [mOp, mNul] at w
    split at w
    · exact lv_ifnonnullN hx hb hdg (w H locs ls hP hS hL)
    · exact lv_ifnonnull hx hb hdg h1 (w H locs ls hP hS hL)
    · exact w.elim
  case tableswitch d lo hi os =>
    simp only [mAux, Bool.and_eq_true, decide_eq_true_eq] at haux
    obtain ⟨⟨h1, h2⟩, h3⟩ := haux
    simp only [mOp] at w
    split at w
    · rename_i x r
      rcases mTabs_sw h3 w with ⟨o, t, k, k1, k2, k3, k4⟩ | ⟨k1, k2⟩
      · have hk : k < os.toList.length := (List.getElem?_eq_some_iff.mp k1).1
        exact lv_tableIn hx hb hdg (by omega) (by omega) (off := o) (tgt := t) (by rw [show (x.toInt - lo).toNat = k by omega, ← Array.getElem?_toList]; exact k1) k3 (k4 H locs ls hP hS hL)
      · exact lv_tableOut hx hb hdg (by omega) h1 (k2 H locs ls hP hS hL)
    · exact w.elim
  case lookupswitch d ps =>
    simp only [mAux, Bool.and_eq_true, decide_eq_true_eq] at haux
    obtain ⟨⟨h1, h2⟩, h3⟩ := haux
    simp only [mOp] at w
    split at w
    · rename_i x r
      obtain ⟨t, k1, k2⟩ := mLks_sw h1 h3 w
      exact lv_lookup hx hb hdg h2 rfl k1 (k2 H locs ls hP hS hL)
    · exact w.elim
  case invokevirtual k =>
    simp only [mAux, decide_eq_true_eq] at haux
    subst haux
    simp only [mOp, mCal] at w
    split at w
    · rename_i q hq
      split at w
      · rename_i hlen
        simp only [Bool.and_eq_true, Nat.ble_eq] at hlen
        have e : (((S.take q.1).reverse).reverse ++ S.drop q.1) = S := by rw [List.reverse_reverse, List.take_append_drop]
        have := hcal (3 * k) q.1 q.2 hq pc H locs ls M ((S.take q.1).reverse) (S.drop q.1) _ (by rw [mIns_v]; exact hdg) hP hS hL.1 (by simp; omega) (by simp; omega) w (fun r M' H' locs' hP' hS' hw => hw H' locs' ls hP' hS' hL)
        rw [e] at this
        exact this
      · exact w.elim
    · exact w.elim
  case invokestatic k =>
    simp only [mAux, decide_eq_true_eq] at haux
    subst haux
    simp only [mOp, mCal] at w
    split at w
    · rename_i q hq
      split at w
      · rename_i hlen
        simp only [Bool.and_eq_true, Nat.ble_eq] at hlen
        have e : (((S.take q.1).reverse).reverse ++ S.drop q.1) = S := by rw [List.reverse_reverse, List.take_append_drop]
        have := hcal (3 * k + 1) q.1 q.2 hq pc H locs ls M ((S.take q.1).reverse) (S.drop q.1) _ (by rw [mIns_s]; exact hdg) hP hS hL.1 (by simp; omega) (by simp; omega) w (fun r M' H' locs' hP' hS' hw => hw H' locs' ls hP' hS' hL)
        rw [e] at this
        exact this
      · exact w.elim
    · exact w.elim
  case invokespecial k =>
    simp only [mAux, decide_eq_true_eq] at haux
    subst haux
    simp only [mOp, mCal] at w
    split at w
    · rename_i q hq
      split at w
      · rename_i hlen
        simp only [Bool.and_eq_true, Nat.ble_eq] at hlen
        have e : (((S.take q.1).reverse).reverse ++ S.drop q.1) = S := by rw [List.reverse_reverse, List.take_append_drop]
        have := hcal (3 * k + 2) q.1 q.2 hq pc H locs ls M ((S.take q.1).reverse) (S.drop q.1) _ (by rw [mIns_p]; exact hdg) hP hS hL.1 (by simp; omega) (by simp; omega) w (fun r M' H' locs' hP' hS' hw => hw H' locs' ls hP' hS' hL)
        rw [e] at this
        exact this
      · exact w.elim
    · exact w.elim
  case ireturn =>
    simp only [mAux, decide_eq_true_eq] at haux
    subst haux
    simp only [mOp, mEnd] at w
    split at w
    · rename_i y
      generalize hret : F.2.2.2.2.2 = ret at w hr
      split at w
      · exact W.zret hx hb hr rfl (fun t ht hW => hend _ M H locs w hP hS t ht hW) hS.2.2 hdg
      · exact W.zret hx hb hr (by rcases w.1 with rfl | rfl <;> decide) (fun t ht hW => hend _ M H locs w.2 hP hS t ht hW) hS.2.2 hdg
      · exact W.zret hx hb hr (by have := pk_nc y; rw [w.1] at this; exact this) (fun t ht hW => hend _ M H locs w.2 hP hS t ht hW) hS.2.2 hdg
      · exact W.zret hx hb hr (by have := pk_nb y; rw [w.1] at this; exact this) (fun t ht hW => hend _ M H locs w.2 hP hS t ht hW) hS.2.2 hdg
      · exact w.elim
    · exact w.elim
  case areturn =>
    simp only [mAux, decide_eq_true_eq] at haux
    subst haux
    simp only [mOp, mEndA] at w
    split at w
    · rename_i y
      have hy : va_rf (y.map ad) = .null ∨ ∃ a, va_rf (y.map ad) = .ref a := by
        cases y with
        | none => exact Or.inl rfl
        | some z => exact Or.inr ⟨_, rfl⟩
      generalize hret : F.2.2.2.2.2 = ret at w hr
      split at w
      · rename_i n
        exact W.aret hx hb hr (Or.inl ⟨n, rfl⟩) hy (fun t ht hW => hend _ M H locs w hP hS t ht hW) hS.2.2 hdg
      · rename_i n
        exact W.aret hx hb hr (Or.inr ⟨n, rfl⟩) hy (fun t ht hW => hend _ M H locs w hP hS t ht hW) hS.2.2 hdg
      · exact w.elim
    · exact w.elim
  case return_ =>
    simp only [mAux, decide_eq_true_eq] at haux
    subst haux
    simp only [mOp, mEndV] at w
    split at w
    · generalize hret : F.2.2.2.2.2 = ret at w hr
      split at w
      · exact W.vret hx hb hr (fun t ht hW => hend none M H locs w hP hS t ht hW) hS.2.2 hdg
      · exact w.elim
    · exact w.elim
  all_goals exact (show False from w).elim
end MSIM
