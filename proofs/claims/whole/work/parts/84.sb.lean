/-! ===== A STRINGBUILDER BY ITSELF: cells 0 (the builder), 1 (its 16 bytes); 2, 3 a text that is no constant ===== -/
def sSH : List mH := [(6, 0, [some 1, none, none, none]), (3, 16, [])]
/-- the builder's text -/
def SBt (M : mM) (t : List Int32) : Prop := M 0 1 = 0 ∧ M 0 3 = nI t.length ∧ t.length ≤ 16 ∧ ∀ j, j < t.length → M 1 j = t.getD j 0
/-- a text: a constant, or cells 2 and 3 -/
def sTx (g : mG) (M : mM) (a : Nat) (u : List Int32) : Prop := (∃ w, w < 17 ∧ a = 1000 + w ∧ u = wB w) ∨ (a = 2 ∧ M 2 1 = 0 ∧ (∀ j, j < u.length → M 3 j = u.getD j 0) ∧ u.length ≤ 16 ∧ ∃ ge, g.2.2.2.2 = (5, 0, [some 3, none, none, none]) :: (3, u.length, []) :: ge)
/-- letters of seven bits -/
def sLo (t : List Int32) : Prop := ∀ j, j < t.length → ∃ k : Nat, k < 128 ∧ t.getD j 0 = nI k
theorem sIs0 {g : mG} {as : List mV} {rs : List mV} (h : as = .inr (some 0) :: rs) : ∃ (a : Nat) (rs : List mV), as = .inr (some a) :: rs ∧ mIsA (xS sSH g) RJ4 a := ⟨0, rs, h, Or.inl ⟨1, 0, _, _, rfl, rfl, rfl⟩⟩
theorem sIsT {g : mG} {as : List mV} {rs : List mV} {M : mM} {a : Nat} {u : List Int32} (h : as = .inr (some a) :: rs) (hT : sTx g M a u) : ∃ (a : Nat) (rs : List mV), as = .inr (some a) :: rs ∧ mIsA (xS sSH g) RJ0 a := by
  refine ⟨a, rs, h, ?_⟩
  rcases hT with ⟨w, hw, rfl, -⟩ | ⟨rfl, -, -, -, ge, hg⟩
  · exact Or.inr ⟨rfl, mRoS_w hw⟩
  · refine Or.inl ⟨0, 0, [some 3, none, none, none], (RJ0, TJ0, 4), ?_, rfl, rfl⟩
    show (sSH ++ g.2.2.2.2)[2]? = _
    rw [hg]
    rfl
theorem sh0 {n : Nat} (h : n < 2 ^ 31) : nI n >>> ((0 : Int32) &&& 31) = nI n := by
  have := pk_shrN h ((0 : Int32) &&& 31) 0 (by decide)
  rw [this, Nat.pow_zero, Nat.div_one]
theorem sl0 {n : Nat} (h : n < 2 ^ 31) : nI n <<< ((0 : Int32) &&& 31) = nI n := by
  have := pk_shlN (n := n) ((0 : Int32) &&& 31) 0 (by decide) (by omega)
  rw [this, Nat.pow_zero, Nat.mul_one]
theorem ch7 : ∀ k, k < 128 → ((nI k &&& nI 255).toUInt32 % 65536).toInt32 = nI k := by decide +kernel
theorem ch7c : ∀ k, k < 128 → ((nI k).toUInt32 % 65536).toInt32 = nI k := by decide +kernel
theorem ch7b : ∀ k, k < 128 → ((nI k).toInt8.toInt32).toInt8.toInt32 = nI k := by decide +kernel
theorem ch7f : ∀ k, k < 128 → fits .byte (.int (nI k)) = true := by decide +kernel
theorem sw_a {M : mM} {c k : Nat} {x : Int32} : mW1 M c k x c k = x := by
  unfold mW1
  rw [mUp_at]
  exact pk_us
theorem sw_k {M : mM} {c k j : Nat} {x : Int32} (h : j ≠ k) : mW1 M c k x c j = M c j := by
  unfold mW1
  rw [mUp_at]
  exact pk_un h
theorem sw_c {M : mM} {c k d : Nat} {x : Int32} (h : d ≠ c) : mW1 M c k x d = M d := mUp_ne h
theorem gd_l {t u : List Int32} {j : Nat} (h : j < t.length) : (t ++ u).getD j 0 = t.getD j 0 := by
  rw [List.getD_eq_getElem?_getD, List.getD_eq_getElem?_getD, List.getElem?_append_left h]
theorem gd_r {t u : List Int32} {j : Nat} (h : t.length ≤ j) : (t ++ u).getD j 0 = u.getD (j - t.length) 0 := by
  rw [List.getD_eq_getElem?_getD, List.getD_eq_getElem?_getD, List.getElem?_append_right h]
theorem nI0 : nI 0 = (0 : Int32) := rfl

def xpre_J5_isLatin1_aae02 (q : Unit) (g : mG) (as : List mV) (M : mM) : Prop := as = [.inr (some 0)] ∧ M 0 1 = 0
def xpost_J5_isLatin1_aae02 (q : Unit) (as : List mV) (M : mM) (v : Int32) (M' : mM) : Prop := v = nI 1 ∧ M' = M
abbrev xt_J5_isLatin1_aae02 : mG → mT := mGi xpre_J5_isLatin1_aae02 xpost_J5_isLatin1_aae02
theorem xmo_J5_isLatin1_aae02 : mMn xt_J5_isLatin1_aae02 := mGi_mono

def xk_J5_isLatin1_aae02 : List (Nat × mI) := [(0, .getstatic 18, 3, 0, 0, []),
  (3, .ifCond .eq 14, 3, 17, 0, []),
  (6, .aload_n 0, 1, 0, 0, []),
  (7, .getfield 22, 3, 0, 0, []),
  (10, .ifCond .ne 7, 3, 17, 0, []),
  (13, .iconst 1, 1, 0, nI 1, []),
  (14, .goto 4, 3, 18, 0, []),
  (17, .iconst 0, 1, 0, nI 0, []),
  (18, .ireturn, 1, 0, 0, [])]
theorem xkk_J5_isLatin1_aae02 : (xk_J5_isLatin1_aae02.all fun e => mChk cJ5_isLatin1_aae02 e.1 e.2) = true := by decide +kernel
def xl_J5_isLatin1_aae02 : List (Nat × Nat × (mG → mT)) := []
def xf_J5_isLatin1_aae02 (g : mG) : mF := (mLk xk_J5_isLatin1_aae02, mLk fl_RJ5, mLk (xl_J5_isLatin1_aae02.map fun e => (e.1, e.2.1, e.2.2 g)), mLk ([] : List (Nat × mV)), mLk ([(18, .inl 1)] : List (Nat × mV)), some .boolean)
theorem xm_J5_isLatin1_aae02 (g : mG) : mMono (xf_J5_isLatin1_aae02 g) := mMonoL (g := g) (l := xl_J5_isLatin1_aae02) (fun _ h => absurd h List.not_mem_nil) rfl

theorem xv_J5_isLatin1_aae02 (g : mG) (M : mM) (P : mP) 
    (h : ((1 : Int32) = 0 → ((nI 0) = 0 ∨ (nI 0) = 1) ∧ P (some (.inl (nI 0))) M) ∧ (¬ ((1 : Int32) = 0) → (¬ (M 0 1) = 0 → ((nI 0) = 0 ∨ (nI 0) = 1) ∧ P (some (.inl (nI 0))) M) ∧ (¬ (¬ (M 0 1) = 0) → ((nI 1) = 0 ∨ (nI 1) = 1) ∧ P (some (.inl (nI 1))) M))) :
    mRun (xS sSH g) (xf_J5_isLatin1_aae02 g) P (0, [some (.inr (some 0))], [], M) := mRun.vc (xm_J5_isLatin1_aae02 g) [] 8 h

theorem xrun_J5_isLatin1_aae02 : xRunOf sSH 1 xt_J5_isLatin1_aae02 xf_J5_isLatin1_aae02 := fun g as M P hT => by
  obtain ⟨q, ⟨rfl, h1⟩, hP⟩ := hT
  refine ⟨Nat.le_of_ble_eq_true rfl, xv_J5_isLatin1_aae02 g M P ?_⟩
  refine ⟨fun w => absurd w (by decide), fun _ => ⟨fun w => absurd h1 w, fun _ => ⟨Or.inr rfl, hP _ _ ⟨rfl, rfl⟩⟩⟩⟩
theorem xsk_J5_isLatin1_aae02 : mStaT RJ5 xf_J5_isLatin1_aae02 := mStaL (l := fun g => ([(18, .inl 1)] : List (Nat × mV))) (fun g => List.forall_mem_cons.mpr ⟨Or.inl ⟨rfl, (show Cond.fieldLink RJ5 18 "java/lang/String" "COMPACT_STRINGS" "Z" ∈ mGW from mIn 287 (by decide +kernel) rfl)⟩, fun _ h => absurd h List.not_mem_nil⟩) (fun _ => rfl)
theorem xok_J5_isLatin1_aae02 : xOK sSH yJ5_isLatin1_aae02 cJ5_isLatin1_aae02 1 (some .boolean) 1 xt_J5_isLatin1_aae02 := xOK.of xf_J5_isLatin1_aae02 (by decide) (fun _ => rfl) (fun g => mCodeOK xkk_J5_isLatin1_aae02) (fun g => mFldL fk_RJ5 rfl) (fun g idx v h => by cases h) xsk_J5_isLatin1_aae02 (xCalL (l := xl_J5_isLatin1_aae02) (fun _ h => absurd h List.not_mem_nil) (fun _ => rfl)) xrun_J5_isLatin1_aae02

theorem xrc_J5_isLatin1_aae02 : xHasC sSH RJ4 0 xt_J5_isLatin1_aae02 := by
  intro g as M P hT hl
  obtain ⟨q, hq, -⟩ := hT
  exact sIs0 hq.1

def xpre_J5_length_8abf5 (q : Unit) (g : mG) (as : List mV) (M : mM) : Prop := as = [.inr (some 0)] ∧ True
def xpost_J5_length_8abf5 (q : Unit) (as : List mV) (M : mM) (v : Int32) (M' : mM) : Prop := v = M 0 3 ∧ M' = M
abbrev xt_J5_length_8abf5 : mG → mT := mGi xpre_J5_length_8abf5 xpost_J5_length_8abf5
theorem xmo_J5_length_8abf5 : mMn xt_J5_length_8abf5 := mGi_mono

def xk_J5_length_8abf5 : List (Nat × mI) := [(0, .aload_n 0, 1, 0, 0, []),
  (1, .getfield 79, 3, 0, 0, []),
  (4, .ireturn, 1, 0, 0, [])]
theorem xkk_J5_length_8abf5 : (xk_J5_length_8abf5.all fun e => mChk cJ5_length_8abf5 e.1 e.2) = true := by decide +kernel
def xl_J5_length_8abf5 : List (Nat × Nat × (mG → mT)) := []
def xf_J5_length_8abf5 (g : mG) : mF := (mLk xk_J5_length_8abf5, mLk fl_RJ5, mLk (xl_J5_length_8abf5.map fun e => (e.1, e.2.1, e.2.2 g)), mLk ([] : List (Nat × mV)), mLk ([] : List (Nat × mV)), some .int)
theorem xm_J5_length_8abf5 (g : mG) : mMono (xf_J5_length_8abf5 g) := mMonoL (g := g) (l := xl_J5_length_8abf5) (fun _ h => absurd h List.not_mem_nil) rfl

theorem xv_J5_length_8abf5 (g : mG) (M : mM) (P : mP) 
    (h : P (some (.inl (M 0 3))) M) :
    mRun (xS sSH g) (xf_J5_length_8abf5 g) P (0, [some (.inr (some 0))], [], M) := mRun.vc (xm_J5_length_8abf5 g) [] 3 h

theorem xrun_J5_length_8abf5 : xRunOf sSH 1 xt_J5_length_8abf5 xf_J5_length_8abf5 := fun g as M P hT => by
  obtain ⟨q, ⟨rfl, -⟩, hP⟩ := hT
  exact ⟨Nat.le_of_ble_eq_true rfl, xv_J5_length_8abf5 g M P (hP _ _ ⟨rfl, rfl⟩)⟩
theorem xok_J5_length_8abf5 : xOK sSH yJ5_length_8abf5 cJ5_length_8abf5 1 (some .int) 1 xt_J5_length_8abf5 := xOK.of xf_J5_length_8abf5 (by decide) (fun _ => rfl) (fun g => mCodeOK xkk_J5_length_8abf5) (fun g => mFldL fk_RJ5 rfl) (fun g idx v h => by cases h) (fun g idx v h => by cases h) (xCalL (l := xl_J5_length_8abf5) (fun _ h => absurd h List.not_mem_nil) (fun _ => rfl)) xrun_J5_length_8abf5

theorem xrc_J5_length_8abf5 : xHasC sSH RJ4 0 xt_J5_length_8abf5 := by
  intro g as M P hT hl
  obtain ⟨q, hq, -⟩ := hT
  exact sIs0 hq.1

def xpre_J4_length_8abf5 (q : Unit) (g : mG) (as : List mV) (M : mM) : Prop := as = [.inr (some 0)] ∧ True
def xpost_J4_length_8abf5 (q : Unit) (as : List mV) (M : mM) (v : Int32) (M' : mM) : Prop := v = M 0 3 ∧ M' = M
abbrev xt_J4_length_8abf5 : mG → mT := mGi xpre_J4_length_8abf5 xpost_J4_length_8abf5
theorem xmo_J4_length_8abf5 : mMn xt_J4_length_8abf5 := mGi_mono

def xk_J4_length_8abf5 : List (Nat × mI) := [(0, .aload_n 0, 1, 0, 0, []),
  (1, .invokespecial 343, 3, 0, 0, []),
  (4, .ireturn, 1, 0, 0, [])]
theorem xkk_J4_length_8abf5 : (xk_J4_length_8abf5.all fun e => mChk cJ4_length_8abf5 e.1 e.2) = true := by decide +kernel
def xl_J4_length_8abf5 : List (Nat × Nat × (mG → mT)) := [(3 * 343 + 2, 0 + 1, xt_J5_length_8abf5)]
def xf_J4_length_8abf5 (g : mG) : mF := (mLk xk_J4_length_8abf5, mLk ([] : List (Nat × Nat × Nat × Nat)), mLk (xl_J4_length_8abf5.map fun e => (e.1, e.2.1, e.2.2 g)), mLk ([] : List (Nat × mV)), mLk ([] : List (Nat × mV)), some .int)
theorem xm_J4_length_8abf5 (g : mG) : mMono (xf_J4_length_8abf5 g) := mMonoL (g := g) (l := xl_J4_length_8abf5) (List.forall_mem_cons.mpr ⟨xmo_J5_length_8abf5, fun _ h => absurd h List.not_mem_nil⟩) rfl

theorem xv_J4_length_8abf5 (g : mG) (M : mM) (P : mP) 
    (h : ∃ x1 : Unit, xpre_J5_length_8abf5 x1 g [.inr (some 0)] M ∧ ∀ (r3 : Int32) (M2 : mM), xpost_J5_length_8abf5 x1 [.inr (some 0)] M r3 M2 → (P (some (.inl r3)) M2)) :
    mRun (xS sSH g) (xf_J4_length_8abf5 g) P (0, [some (.inr (some 0))], [], M) := mRun.vc (xm_J4_length_8abf5 g) [] 3 h

theorem xrun_J4_length_8abf5 : xRunOf sSH 1 xt_J4_length_8abf5 xf_J4_length_8abf5 := fun g as M P hT => by
  obtain ⟨q, ⟨rfl, -⟩, hP⟩ := hT
  exact ⟨Nat.le_of_ble_eq_true rfl, xv_J4_length_8abf5 g M P ⟨(), ⟨rfl, trivial⟩, fun r M2 h => hP _ _ h⟩⟩
theorem xok_J4_length_8abf5 : xOK sSH yJ4_length_8abf5 cJ4_length_8abf5 1 (some .int) 2 xt_J4_length_8abf5 := xOK.of xf_J4_length_8abf5 (by decide) (fun _ => rfl) (fun g => mCodeOK xkk_J4_length_8abf5) (fun g => mFldL (l := []) (fun _ h => absurd h List.not_mem_nil) rfl) (fun g idx v h => by cases h) (fun g idx v h => by cases h) (xCalL (l := xl_J4_length_8abf5) (List.forall_mem_cons.mpr ⟨xSite.SU (idx := 343) (ci := 1) xok_J5_length_8abf5 (fun _ h => h) (by decide) (by decide) xrc_J5_length_8abf5 rfl wc_J5_length_8abf5 wk_RJ4_343 (show Cond.sameMethod yJ5_length_8abf5.cls yJ5_length_8abf5.cls yJ5_length_8abf5.name yJ5_length_8abf5.desc ∈ mGW from mIn 1528 (by decide +kernel) rfl) (show Cond.superclass RJ4 yJ5_length_8abf5.cls ∈ mGW from mIn 309 (by decide +kernel) rfl) wi_J5_length_8abf5 wn_RJ5 ⟨by decide, wd_J5_length_8abf5.2.2⟩, fun _ h => absurd h List.not_mem_nil⟩) (fun _ => rfl)) xrun_J4_length_8abf5

theorem xrc_J4_length_8abf5 : xHasC sSH RJ4 0 xt_J4_length_8abf5 := by
  intro g as M P hT hl
  obtain ⟨q, hq, -⟩ := hT
  exact sIs0 hq.1

theorem xrv_J4_length_8abf5 : xHasR sSH yJ4_length_8abf5 0 xt_J4_length_8abf5 := xrc_J4_length_8abf5

def xpre_J5_ensureCapacityInternal_d00df (q : Nat) (g : mG) (as : List mV) (M : mM) : Prop := as = [.inr (some 0), .inl (nI q)] ∧ M 0 1 = 0 ∧ q ≤ 16
def xpost_J5_ensureCapacityInternal_d00df (q : Nat) (as : List mV) (M : mM) (M' : mM) : Prop := M' = M
abbrev xt_J5_ensureCapacityInternal_d00df : mG → mT := mGv xpre_J5_ensureCapacityInternal_d00df xpost_J5_ensureCapacityInternal_d00df
theorem xmo_J5_ensureCapacityInternal_d00df : mMn xt_J5_ensureCapacityInternal_d00df := mGv_mono

def xk_J5_ensureCapacityInternal_d00df : List (Nat × mI) := [(0, .aload_n 0, 1, 0, 0, []),
  (1, .getfield 15, 3, 0, 0, []),
  (4, .arraylength, 1, 0, 0, []),
  (5, .aload_n 0, 1, 0, 0, []),
  (6, .getfield 22, 3, 0, 0, []),
  (9, .ishr, 1, 0, 0, []),
  (10, .istore_n 2, 1, 2, 0, []),
  (11, .iload_n 1, 1, 1, 0, []),
  (12, .iload_n 2, 1, 2, 0, []),
  (13, .isub, 1, 0, 0, []),
  (14, .ifCond .le 24, 3, 38, 0, []),
  (17, .aload_n 0, 1, 0, 0, []),
  (18, .aload_n 0, 1, 0, 0, []),
  (19, .getfield 15, 3, 0, 0, []),
  (22, .aload_n 0, 1, 0, 0, []),
  (23, .iload_n 1, 1, 1, 0, []),
  (24, .invokevirtual 104, 3, 0, 0, []),
  (27, .aload_n 0, 1, 0, 0, []),
  (28, .getfield 22, 3, 0, 0, []),
  (31, .ishl, 1, 0, 0, []),
  (32, .invokestatic 108, 3, 0, 0, []),
  (35, .putfield 15, 3, 0, 0, []),
  (38, .return_, 1, 0, 0, [])]
theorem xkk_J5_ensureCapacityInternal_d00df : (xk_J5_ensureCapacityInternal_d00df.all fun e => mChk cJ5_ensureCapacityInternal_d00df e.1 e.2) = true := by decide +kernel
def xl_J5_ensureCapacityInternal_d00df : List (Nat × Nat × (mG → mT)) := []
def xf_J5_ensureCapacityInternal_d00df (g : mG) : mF := (mLk xk_J5_ensureCapacityInternal_d00df, mLk fl_RJ5, mLk (xl_J5_ensureCapacityInternal_d00df.map fun e => (e.1, e.2.1, e.2.2 g)), mLk ([] : List (Nat × mV)), mLk ([] : List (Nat × mV)), none)
theorem xm_J5_ensureCapacityInternal_d00df (g : mG) : mMono (xf_J5_ensureCapacityInternal_d00df g) := mMonoL (g := g) (l := xl_J5_ensureCapacityInternal_d00df) (fun _ h => absurd h List.not_mem_nil) rfl

theorem xv_J5_ensureCapacityInternal_d00df (g : mG) (M : mM) (P : mP) (x : Int32)
    (h : ((x - ((nI 16) >>> ((M 0 1) &&& 31))) ≤ 0 → P none M) ∧ (¬ ((x - ((nI 16) >>> ((M 0 1) &&& 31))) ≤ 0) → False)) :
    mRun (xS sSH g) (xf_J5_ensureCapacityInternal_d00df g) P (0, [some (.inr (some 0)), some (.inl x), none], [], M) := mRun.vc (xm_J5_ensureCapacityInternal_d00df g) [] 17 h

theorem xrun_J5_ensureCapacityInternal_d00df : xRunOf sSH 3 xt_J5_ensureCapacityInternal_d00df xf_J5_ensureCapacityInternal_d00df := fun g as M P hT => by
  obtain ⟨q, ⟨rfl, h1, h2⟩, hP⟩ := hT
  refine ⟨Nat.le_of_ble_eq_true rfl, ?_⟩
  refine xv_J5_ensureCapacityInternal_d00df g M P _ ⟨fun _ => hP _ rfl, fun w => absurd ?_ w⟩
  rw [h1, sh0 (by decide), Int32.le_iff_toInt_le, pk_sub_toInt (by omega) (by decide), Int32.toInt_zero]
  omega
theorem xok_J5_ensureCapacityInternal_d00df : xOK sSH yJ5_ensureCapacityInternal_d00df cJ5_ensureCapacityInternal_d00df 3 (none) 1 xt_J5_ensureCapacityInternal_d00df := xOK.of xf_J5_ensureCapacityInternal_d00df (by decide) (fun _ => rfl) (fun g => mCodeOK xkk_J5_ensureCapacityInternal_d00df) (fun g => mFldL fk_RJ5 rfl) (fun g idx v h => by cases h) (fun g idx v h => by cases h) (xCalL (l := xl_J5_ensureCapacityInternal_d00df) (fun _ h => absurd h List.not_mem_nil) (fun _ => rfl)) xrun_J5_ensureCapacityInternal_d00df

theorem xrc_J5_ensureCapacityInternal_d00df : xHasC sSH RJ4 1 xt_J5_ensureCapacityInternal_d00df := by
  intro g as M P hT hl
  obtain ⟨q, hq, -⟩ := hT
  exact sIs0 hq.1

def xpre_J5_setLength_d00df (q : Nat) (g : mG) (as : List mV) (M : mM) : Prop := as = [.inr (some 0), .inl (nI 0)] ∧ M 0 1 = 0 ∧ M 0 3 = nI q ∧ q ≤ 16
def xpost_J5_setLength_d00df (q : Nat) (as : List mV) (M : mM) (M' : mM) : Prop := M' 0 1 = 0 ∧ M' 0 3 = nI 0 ∧ ∀ d, d ≠ 0 → M' d = M d
abbrev xt_J5_setLength_d00df : mG → mT := mGv xpre_J5_setLength_d00df xpost_J5_setLength_d00df
theorem xmo_J5_setLength_d00df : mMn xt_J5_setLength_d00df := mGv_mono

def xk_J5_setLength_d00df : List (Nat × mI) := [(0, .iload_n 1, 1, 1, 0, []),
  (1, .ifCond .ge 12, 3, 13, 0, []),
  (7, .dup, 1, 0, 0, []),
  (8, .iload_n 1, 1, 1, 0, []),
  (9, .invokespecial 131, 3, 0, 0, []),
  (13, .aload_n 0, 1, 0, 0, []),
  (14, .iload_n 1, 1, 1, 0, []),
  (15, .invokevirtual 100, 3, 0, 0, []),
  (18, .aload_n 0, 1, 0, 0, []),
  (19, .getfield 79, 3, 0, 0, []),
  (22, .iload_n 1, 1, 1, 0, []),
  (23, .if_icmp .ge 40, 3, 63, 0, []),
  (26, .aload_n 0, 1, 0, 0, []),
  (27, .invokevirtual 83, 3, 0, 0, []),
  (30, .ifCond .eq 18, 3, 48, 0, []),
  (33, .aload_n 0, 1, 0, 0, []),
  (34, .getfield 15, 3, 0, 0, []),
  (37, .aload_n 0, 1, 0, 0, []),
  (38, .getfield 79, 3, 0, 0, []),
  (41, .iload_n 1, 1, 1, 0, []),
  (42, .invokestatic 133, 3, 0, 0, []),
  (45, .goto 31, 3, 76, 0, []),
  (48, .aload_n 0, 1, 0, 0, []),
  (49, .getfield 15, 3, 0, 0, []),
  (52, .aload_n 0, 1, 0, 0, []),
  (53, .getfield 79, 3, 0, 0, []),
  (56, .iload_n 1, 1, 1, 0, []),
  (57, .invokestatic 137, 3, 0, 0, []),
  (60, .goto 16, 3, 76, 0, []),
  (63, .aload_n 0, 1, 0, 0, []),
  (64, .getfield 79, 3, 0, 0, []),
  (67, .iload_n 1, 1, 1, 0, []),
  (68, .if_icmp .le 8, 3, 76, 0, []),
  (71, .aload_n 0, 1, 0, 0, []),
  (72, .iconst 1, 1, 0, nI 1, []),
  (73, .putfield 73, 3, 0, 0, []),
  (76, .aload_n 0, 1, 0, 0, []),
  (77, .iload_n 1, 1, 1, 0, []),
  (78, .putfield 79, 3, 0, 0, []),
  (81, .return_, 1, 0, 0, [])]
theorem xkk_J5_setLength_d00df : (xk_J5_setLength_d00df.all fun e => mChk cJ5_setLength_d00df e.1 e.2) = true := by decide +kernel
def xl_J5_setLength_d00df : List (Nat × Nat × (mG → mT)) := [(3 * 100, 1 + 1, xt_J5_ensureCapacityInternal_d00df), (3 * 83, 0 + 1, xt_J5_isLatin1_aae02)]
def xf_J5_setLength_d00df (g : mG) : mF := (mLk xk_J5_setLength_d00df, mLk fl_RJ5, mLk (xl_J5_setLength_d00df.map fun e => (e.1, e.2.1, e.2.2 g)), mLk ([] : List (Nat × mV)), mLk ([] : List (Nat × mV)), none)
theorem xm_J5_setLength_d00df (g : mG) : mMono (xf_J5_setLength_d00df g) := mMonoL (g := g) (l := xl_J5_setLength_d00df) (List.forall_mem_cons.mpr ⟨xmo_J5_ensureCapacityInternal_d00df, List.forall_mem_cons.mpr ⟨xmo_J5_isLatin1_aae02, fun _ h => absurd h List.not_mem_nil⟩⟩) rfl

theorem xv_J5_setLength_d00df (g : mG) (M : mM) (P : mP) 
    (h : (0 ≤ (nI 0) → ∃ x2 : Nat, xpre_J5_ensureCapacityInternal_d00df x2 g [.inr (some 0), .inl (nI 0)] M ∧ ∀ M3 : mM, xpost_J5_ensureCapacityInternal_d00df x2 [.inr (some 0), .inl (nI 0)] M M3 → (((nI 0) ≤ (M3 0 3) → ((M3 0 3) ≤ (nI 0) → let M6 : mM := mW1 M3 0 3 (nI 0); P none M6) ∧ (¬ ((M3 0 3) ≤ (nI 0)) → ((nI 1) = 0 ∨ (nI 1) = 1) ∧ (let M7 : mM := mW1 M3 0 2 (nI 1); let M8 : mM := mW1 M7 0 3 (nI 0); P none M8))) ∧ (¬ ((nI 0) ≤ (M3 0 3)) → ∃ x9 : Unit, xpre_J5_isLatin1_aae02 x9 g [.inr (some 0)] M3 ∧ ∀ (r11 : Int32) (M10 : mM), xpost_J5_isLatin1_aae02 x9 [.inr (some 0)] M3 r11 M10 → ((r11 = 0 → False) ∧ (¬ (r11 = 0) → False))))) ∧ (¬ (0 ≤ (nI 0)) → False)) :
    mRun (xS sSH g) (xf_J5_setLength_d00df g) P (0, [some (.inr (some 0)), some (.inl (nI 0))], [], M) := mRun.vc (xm_J5_setLength_d00df g) [] 20 h

theorem xrun_J5_setLength_d00df : xRunOf sSH 2 xt_J5_setLength_d00df xf_J5_setLength_d00df := fun g as M P hT => by
  obtain ⟨q, ⟨rfl, h1, h2, h3⟩, hP⟩ := hT
  refine ⟨Nat.le_of_ble_eq_true rfl, ?_⟩
  refine xv_J5_setLength_d00df g M P ⟨fun _ => ⟨0, ⟨rfl, h1, by decide⟩, fun M3 h => ?_⟩, fun w => absurd (by decide) w⟩
  rw [show M3 = M from h]
  refine ⟨fun _ => ⟨fun _ => hP _ ⟨?_, sw_a, fun d hd => sw_c hd⟩, fun _ => ⟨Or.inr rfl, hP _ ⟨?_, sw_a, fun d hd => ?_⟩⟩⟩, fun w => absurd ?_ w⟩
  · rw [sw_k (by decide)]
    exact h1
  · rw [sw_k (by decide), sw_k (by decide)]
    exact h1
  · rw [sw_c hd, sw_c hd]
  · rw [h2]
    exact nI_le (Nat.zero_le _) (by omega)
theorem xok_J5_setLength_d00df : xOK sSH yJ5_setLength_d00df cJ5_setLength_d00df 2 (none) 2 xt_J5_setLength_d00df := xOK.of xf_J5_setLength_d00df (by decide) (fun _ => rfl) (fun g => mCodeOK xkk_J5_setLength_d00df) (fun g => mFldL fk_RJ5 rfl) (fun g idx v h => by cases h) (fun g idx v h => by cases h) (xCalL (l := xl_J5_setLength_d00df) (List.forall_mem_cons.mpr ⟨xSite.U (idx := 100) (C := RJ4) xok_J5_ensureCapacityInternal_d00df (fun _ h => h) (by decide) (by decide) xrc_J5_ensureCapacityInternal_d00df wc_J5_ensureCapacityInternal_d00df wk_RJ5_100 (show Cond.sameMethod yJ5_ensureCapacityInternal_d00df.cls yJ5_ensureCapacityInternal_d00df.cls yJ5_ensureCapacityInternal_d00df.name yJ5_ensureCapacityInternal_d00df.desc ∈ mGW from mIn 1519 (by decide +kernel) rfl) wi_J5_ensureCapacityInternal_d00df (xInP 0 rfl) wn_RJ5 wd_J5_ensureCapacityInternal_d00df, List.forall_mem_cons.mpr ⟨xSite.U (idx := 83) (C := RJ4) xok_J5_isLatin1_aae02 (fun _ h => h) (by decide) (by decide) xrc_J5_isLatin1_aae02 wc_J5_isLatin1_aae02 wk_RJ5_83 (show Cond.sameMethod yJ5_isLatin1_aae02.cls yJ5_isLatin1_aae02.cls yJ5_isLatin1_aae02.name yJ5_isLatin1_aae02.desc ∈ mGW from mIn 723 (by decide +kernel) rfl) wi_J5_isLatin1_aae02 (xIn (mIn 724 (by decide +kernel) rfl)) wn_RJ5 wd_J5_isLatin1_aae02, fun _ h => absurd h List.not_mem_nil⟩⟩) (fun _ => rfl)) xrun_J5_setLength_d00df

theorem xrc_J5_setLength_d00df : xHasC sSH RJ4 1 xt_J5_setLength_d00df := by
  intro g as M P hT hl
  obtain ⟨q, hq, -⟩ := hT
  exact sIs0 hq.1

def xpre_J4_setLength_d00df (q : Nat) (g : mG) (as : List mV) (M : mM) : Prop := as = [.inr (some 0), .inl (nI 0)] ∧ M 0 1 = 0 ∧ M 0 3 = nI q ∧ q ≤ 16
def xpost_J4_setLength_d00df (q : Nat) (as : List mV) (M : mM) (M' : mM) : Prop := M' 0 1 = 0 ∧ M' 0 3 = nI 0 ∧ ∀ d, d ≠ 0 → M' d = M d
abbrev xt_J4_setLength_d00df : mG → mT := mGv xpre_J4_setLength_d00df xpost_J4_setLength_d00df
theorem xmo_J4_setLength_d00df : mMn xt_J4_setLength_d00df := mGv_mono

def xk_J4_setLength_d00df : List (Nat × mI) := [(0, .aload_n 0, 1, 0, 0, []),
  (1, .iload_n 1, 1, 1, 0, []),
  (2, .invokespecial 333, 3, 0, 0, []),
  (5, .return_, 1, 0, 0, [])]
theorem xkk_J4_setLength_d00df : (xk_J4_setLength_d00df.all fun e => mChk cJ4_setLength_d00df e.1 e.2) = true := by decide +kernel
def xl_J4_setLength_d00df : List (Nat × Nat × (mG → mT)) := [(3 * 333 + 2, 1 + 1, xt_J5_setLength_d00df)]
def xf_J4_setLength_d00df (g : mG) : mF := (mLk xk_J4_setLength_d00df, mLk ([] : List (Nat × Nat × Nat × Nat)), mLk (xl_J4_setLength_d00df.map fun e => (e.1, e.2.1, e.2.2 g)), mLk ([] : List (Nat × mV)), mLk ([] : List (Nat × mV)), none)
theorem xm_J4_setLength_d00df (g : mG) : mMono (xf_J4_setLength_d00df g) := mMonoL (g := g) (l := xl_J4_setLength_d00df) (List.forall_mem_cons.mpr ⟨xmo_J5_setLength_d00df, fun _ h => absurd h List.not_mem_nil⟩) rfl

theorem xv_J4_setLength_d00df (g : mG) (M : mM) (P : mP) 
    (h : ∃ x1 : Nat, xpre_J5_setLength_d00df x1 g [.inr (some 0), .inl (nI 0)] M ∧ ∀ M2 : mM, xpost_J5_setLength_d00df x1 [.inr (some 0), .inl (nI 0)] M M2 → (P none M2)) :
    mRun (xS sSH g) (xf_J4_setLength_d00df g) P (0, [some (.inr (some 0)), some (.inl (nI 0))], [], M) := mRun.vc (xm_J4_setLength_d00df g) [] 4 h

theorem xrun_J4_setLength_d00df : xRunOf sSH 2 xt_J4_setLength_d00df xf_J4_setLength_d00df := fun g as M P hT => by
  obtain ⟨q, ⟨rfl, h1, h2, h3⟩, hP⟩ := hT
  refine ⟨Nat.le_of_ble_eq_true rfl, ?_⟩
  exact xv_J4_setLength_d00df g M P ⟨q, ⟨rfl, h1, h2, h3⟩, fun M2 h => hP _ h⟩
theorem xok_J4_setLength_d00df : xOK sSH yJ4_setLength_d00df cJ4_setLength_d00df 2 (none) 3 xt_J4_setLength_d00df := xOK.of xf_J4_setLength_d00df (by decide) (fun _ => rfl) (fun g => mCodeOK xkk_J4_setLength_d00df) (fun g => mFldL (l := []) (fun _ h => absurd h List.not_mem_nil) rfl) (fun g idx v h => by cases h) (fun g idx v h => by cases h) (xCalL (l := xl_J4_setLength_d00df) (List.forall_mem_cons.mpr ⟨xSite.SU (idx := 333) (ci := 1) xok_J5_setLength_d00df (fun _ h => h) (by decide) (by decide) xrc_J5_setLength_d00df rfl wc_J5_setLength_d00df wk_RJ4_333 (show Cond.sameMethod yJ5_setLength_d00df.cls yJ5_setLength_d00df.cls yJ5_setLength_d00df.name yJ5_setLength_d00df.desc ∈ mGW from mIn 1518 (by decide +kernel) rfl) (show Cond.superclass RJ4 yJ5_setLength_d00df.cls ∈ mGW from mIn 309 (by decide +kernel) rfl) wi_J5_setLength_d00df wn_RJ5 ⟨by decide, wd_J5_setLength_d00df.2.2⟩, fun _ h => absurd h List.not_mem_nil⟩) (fun _ => rfl)) xrun_J4_setLength_d00df

theorem xrc_J4_setLength_d00df : xHasC sSH RJ4 1 xt_J4_setLength_d00df := by
  intro g as M P hT hl
  obtain ⟨q, hq, -⟩ := hT
  exact sIs0 hq.1

theorem xrv_J4_setLength_d00df : xHasR sSH yJ4_setLength_d00df 1 xt_J4_setLength_d00df := xrc_J4_setLength_d00df

def xpre_J3_checkIndex_8e157 (q : Nat × Nat × Option Nat) (g : mG) (as : List mV) (M : mM) : Prop := as = [.inl (nI q.1), .inl (nI q.2.1), .inr q.2.2] ∧ q.1 < q.2.1 ∧ q.2.1 < 2 ^ 31
def xpost_J3_checkIndex_8e157 (q : Nat × Nat × Option Nat) (as : List mV) (M : mM) (v : Int32) (M' : mM) : Prop := M' = M
abbrev xt_J3_checkIndex_8e157 : mG → mT := mGi xpre_J3_checkIndex_8e157 xpost_J3_checkIndex_8e157
theorem xmo_J3_checkIndex_8e157 : mMn xt_J3_checkIndex_8e157 := mGi_mono

def xk_J3_checkIndex_8e157 : List (Nat × mI) := [(0, .iload_n 0, 1, 0, 0, []),
  (1, .ifCond .lt 8, 3, 9, 0, []),
  (4, .iload_n 0, 1, 0, 0, []),
  (5, .iload_n 1, 1, 1, 0, []),
  (6, .if_icmp .lt 10, 3, 16, 0, []),
  (9, .aload_n 2, 1, 2, 0, []),
  (10, .iload_n 0, 1, 0, 0, []),
  (11, .iload_n 1, 1, 1, 0, []),
  (12, .invokestatic 95, 3, 0, 0, []),
  (16, .iload_n 0, 1, 0, 0, []),
  (17, .ireturn, 1, 0, 0, [])]
theorem xkk_J3_checkIndex_8e157 : (xk_J3_checkIndex_8e157.all fun e => mChk cJ3_checkIndex_8e157 e.1 e.2) = true := by decide +kernel
def xl_J3_checkIndex_8e157 : List (Nat × Nat × (mG → mT)) := []
def xf_J3_checkIndex_8e157 (g : mG) : mF := (mLk xk_J3_checkIndex_8e157, mLk ([] : List (Nat × Nat × Nat × Nat)), mLk (xl_J3_checkIndex_8e157.map fun e => (e.1, e.2.1, e.2.2 g)), mLk ([] : List (Nat × mV)), mLk ([] : List (Nat × mV)), some .int)
theorem xm_J3_checkIndex_8e157 (g : mG) : mMono (xf_J3_checkIndex_8e157 g) := mMonoL (g := g) (l := xl_J3_checkIndex_8e157) (fun _ h => absurd h List.not_mem_nil) rfl

theorem xv_J3_checkIndex_8e157 (g : mG) (M : mM) (P : mP) (i n : Nat) (x : Option Nat)
    (h : ((nI i) < 0 → False) ∧ (¬ ((nI i) < 0) → ((nI i) < (nI n) → P (some (.inl (nI i))) M) ∧ (¬ ((nI i) < (nI n)) → False))) :
    mRun (xS sSH g) (xf_J3_checkIndex_8e157 g) P (0, [some (.inl (nI i)), some (.inl (nI n)), some (.inr x)], [], M) := mRun.vc (xm_J3_checkIndex_8e157 g) [] 9 h

theorem xrun_J3_checkIndex_8e157 : xRunOf sSH 3 xt_J3_checkIndex_8e157 xf_J3_checkIndex_8e157 := fun g as M P hT => by
  obtain ⟨⟨i, n, x⟩, ⟨rfl, h1, h2⟩, hP⟩ := hT
  refine ⟨Nat.le_of_ble_eq_true rfl, ?_⟩
  dsimp only at h1 h2
  exact xv_J3_checkIndex_8e157 g M P i n x ⟨fun w => absurd w (nI_pos (by omega)), fun _ => ⟨fun _ => hP _ _ rfl, fun w => absurd (nI_lt h1 h2) w⟩⟩
theorem xok_J3_checkIndex_8e157 : xOK sSH yJ3_checkIndex_8e157 cJ3_checkIndex_8e157 3 (some .int) 1 xt_J3_checkIndex_8e157 := xOK.of xf_J3_checkIndex_8e157 (by decide) (fun _ => rfl) (fun g => mCodeOK xkk_J3_checkIndex_8e157) (fun g => mFldL (l := []) (fun _ h => absurd h List.not_mem_nil) rfl) (fun g idx v h => by cases h) (fun g idx v h => by cases h) (xCalL (l := xl_J3_checkIndex_8e157) (fun _ h => absurd h List.not_mem_nil) (fun _ => rfl)) xrun_J3_checkIndex_8e157

def xpre_J0_checkIndex_df160 (q : Nat × Nat) (g : mG) (as : List mV) (M : mM) : Prop := as = [.inl (nI q.1), .inl (nI q.2)] ∧ q.1 < q.2 ∧ q.2 < 2 ^ 31
def xpost_J0_checkIndex_df160 (q : Nat × Nat) (as : List mV) (M : mM) (M' : mM) : Prop := M' = M
abbrev xt_J0_checkIndex_df160 : mG → mT := mGv xpre_J0_checkIndex_df160 xpost_J0_checkIndex_df160
theorem xmo_J0_checkIndex_df160 : mMn xt_J0_checkIndex_df160 := mGv_mono

def xk_J0_checkIndex_df160 : List (Nat × mI) := [(0, .iload_n 0, 1, 0, 0, []),
  (1, .iload_n 1, 1, 1, 0, []),
  (2, .getstatic 1053, 3, 0, 0, []),
  (5, .invokestatic 1059, 3, 0, 0, []),
  (8, .pop, 1, 0, 0, []),
  (9, .return_, 1, 0, 0, [])]
theorem xkk_J0_checkIndex_df160 : (xk_J0_checkIndex_df160.all fun e => mChk cJ0_checkIndex_df160 e.1 e.2) = true := by decide +kernel
def xl_J0_checkIndex_df160 : List (Nat × Nat × (mG → mT)) := [(3 * 1059 + 1, 3, xt_J3_checkIndex_8e157)]
def xf_J0_checkIndex_df160 (g : mG) : mF := (mLk xk_J0_checkIndex_df160, mLk fl_RJ0, mLk (xl_J0_checkIndex_df160.map fun e => (e.1, e.2.1, e.2.2 g)), mLk ([] : List (Nat × mV)), mLk ([(1053, .inr g.2.2.2.1)] : List (Nat × mV)), none)
theorem xm_J0_checkIndex_df160 (g : mG) : mMono (xf_J0_checkIndex_df160 g) := mMonoL (g := g) (l := xl_J0_checkIndex_df160) (List.forall_mem_cons.mpr ⟨xmo_J3_checkIndex_8e157, fun _ h => absurd h List.not_mem_nil⟩) rfl

theorem xv_J0_checkIndex_df160 (g : mG) (M : mM) (P : mP) (i n : Nat)
    (h : ∃ x1 : Nat × Nat × Option Nat, xpre_J3_checkIndex_8e157 x1 g [.inl (nI i), .inl (nI n), .inr g.2.2.2.1] M ∧ ∀ (r3 : Int32) (M2 : mM), xpost_J3_checkIndex_8e157 x1 [.inl (nI i), .inl (nI n), .inr g.2.2.2.1] M r3 M2 → (P none M2)) :
    mRun (xS sSH g) (xf_J0_checkIndex_df160 g) P (0, [some (.inl (nI i)), some (.inl (nI n))], [], M) := mRun.vc (xm_J0_checkIndex_df160 g) [] 6 h

theorem xrun_J0_checkIndex_df160 : xRunOf sSH 2 xt_J0_checkIndex_df160 xf_J0_checkIndex_df160 := fun g as M P hT => by
  obtain ⟨⟨i, n⟩, ⟨rfl, h1, h2⟩, hP⟩ := hT
  refine ⟨Nat.le_of_ble_eq_true rfl, ?_⟩
  dsimp only at h1 h2
  exact xv_J0_checkIndex_df160 g M P i n ⟨(i, n, g.2.2.2.1), ⟨rfl, h1, h2⟩, fun r M2 h => by rw [show M2 = M from h]; exact hP _ rfl⟩
theorem xsk_J0_checkIndex_df160 : mStaT RJ0 xf_J0_checkIndex_df160 := mStaL (l := fun g => ([(1053, .inr g.2.2.2.1)] : List (Nat × mV))) (fun g => List.forall_mem_cons.mpr ⟨Or.inr (Or.inr (Or.inr ⟨rfl, (show Cond.fieldLink RJ0 1053 "jdk/internal/util/Preconditions" "SIOOBE_FORMATTER" "Ljava/util/function/BiFunction;" ∈ mGW from mIn 435 (by decide +kernel) rfl)⟩)), fun _ h => absurd h List.not_mem_nil⟩) (fun _ => rfl)
theorem xok_J0_checkIndex_df160 : xOK sSH yJ0_checkIndex_df160 cJ0_checkIndex_df160 2 (none) 2 xt_J0_checkIndex_df160 := xOK.of xf_J0_checkIndex_df160 (by decide) (fun _ => rfl) (fun g => mCodeOK xkk_J0_checkIndex_df160) (fun g => mFldL fk_RJ0 rfl) (fun g idx v h => by cases h) xsk_J0_checkIndex_df160 (xCalL (l := xl_J0_checkIndex_df160) (List.forall_mem_cons.mpr ⟨xSite.S (idx := 1059) xok_J3_checkIndex_8e157 (fun _ h => h) (by decide) (by decide) wc_J3_checkIndex_8e157 wk_RJ0_1059 wt_J3_checkIndex_8e157 wn_RJ3 wd_J3_checkIndex_8e157, fun _ h => absurd h List.not_mem_nil⟩) (fun _ => rfl)) xrun_J0_checkIndex_df160

def xpre_J5_charAt_5068e (q : List Int32 × Nat) (g : mG) (as : List mV) (M : mM) : Prop := as = [.inr (some 0), .inl (nI q.2)] ∧ SBt M q.1 ∧ sLo q.1 ∧ q.2 < q.1.length
def xpost_J5_charAt_5068e (q : List Int32 × Nat) (as : List mV) (M : mM) (v : Int32) (M' : mM) : Prop := v = q.1.getD q.2 0 ∧ M' = M
abbrev xt_J5_charAt_5068e : mG → mT := mGi xpre_J5_charAt_5068e xpost_J5_charAt_5068e
theorem xmo_J5_charAt_5068e : mMn xt_J5_charAt_5068e := mGi_mono

def xk_J5_charAt_5068e : List (Nat × mI) := [(0, .aload_n 0, 1, 0, 0, []),
  (1, .getfield 22, 3, 0, 0, []),
  (4, .istore_n 2, 1, 2, 0, []),
  (5, .aload_n 0, 1, 0, 0, []),
  (6, .getfield 15, 3, 0, 0, []),
  (9, .astore_n 3, 1, 3, 0, []),
  (10, .aload_n 0, 1, 0, 0, []),
  (11, .getfield 79, 3, 0, 0, []),
  (14, .aload_n 3, 1, 3, 0, []),
  (15, .arraylength, 1, 0, 0, []),
  (16, .iload_n 2, 1, 2, 0, []),
  (17, .ishr, 1, 0, 0, []),
  (18, .invokestatic 138, 3, 0, 0, []),
  (21, .istore 4, 2, 4, 0, []),
  (23, .iload_n 1, 1, 1, 0, []),
  (24, .iload 4, 2, 4, 0, []),
  (26, .invokestatic 144, 3, 0, 0, []),
  (29, .iload_n 2, 1, 2, 0, []),
  (30, .ifCond .ne 12, 3, 42, 0, []),
  (33, .aload_n 3, 1, 3, 0, []),
  (34, .iload_n 1, 1, 1, 0, []),
  (35, .baload, 1, 0, 0, []),
  (36, .sipush 255, 3, 0, nI 255, []),
  (39, .iand, 1, 0, 0, []),
  (40, .i2c, 1, 0, 0, []),
  (41, .ireturn, 1, 0, 0, []),
  (42, .aload_n 3, 1, 3, 0, []),
  (43, .iload_n 1, 1, 1, 0, []),
  (44, .invokestatic 148, 3, 0, 0, []),
  (47, .ireturn, 1, 0, 0, [])]
theorem xkk_J5_charAt_5068e : (xk_J5_charAt_5068e.all fun e => mChk cJ5_charAt_5068e e.1 e.2) = true := by decide +kernel
def xl_J5_charAt_5068e : List (Nat × Nat × (mG → mT)) := [(3 * 138 + 1, 2, tMin), (3 * 144 + 1, 2, xt_J0_checkIndex_df160)]
def xf_J5_charAt_5068e (g : mG) : mF := (mLk xk_J5_charAt_5068e, mLk fl_RJ5, mLk (xl_J5_charAt_5068e.map fun e => (e.1, e.2.1, e.2.2 g)), mLk ([] : List (Nat × mV)), mLk ([] : List (Nat × mV)), some .char)
theorem xm_J5_charAt_5068e (g : mG) : mMono (xf_J5_charAt_5068e g) := mMonoL (g := g) (l := xl_J5_charAt_5068e) (List.forall_mem_cons.mpr ⟨tMin_mono, List.forall_mem_cons.mpr ⟨xmo_J0_checkIndex_df160, fun _ h => absurd h List.not_mem_nil⟩⟩) rfl

theorem xv_J5_charAt_5068e (g : mG) (M : mM) (P : mP) (j : Nat)
    (h : let v1 : Int32 := if ((nI 16) >>> ((M 0 1) &&& 31)) < (M 0 3) then (nI 16) >>> ((M 0 1) &&& 31) else M 0 3; ∃ x2 : Nat × Nat, xpre_J0_checkIndex_df160 x2 g [.inl (nI j), .inl v1] M ∧ ∀ M3 : mM, xpost_J0_checkIndex_df160 x2 [.inl (nI j), .inl v1] M M3 → ((¬ (M 0 1) = 0 → False) ∧ (¬ (¬ (M 0 1) = 0) → vp_in (nI j) 16 ∧ ((((((M3 1 ((nI j).toNatClampNeg)) &&& (nI 255)).toUInt32 % 65536).toInt32).toUInt32 % 65536).toInt32 = ((((M3 1 ((nI j).toNatClampNeg)) &&& (nI 255)).toUInt32 % 65536).toInt32) ∧ P (some (.inl ((((M3 1 ((nI j).toNatClampNeg)) &&& (nI 255)).toUInt32 % 65536).toInt32))) M3)))) :
    mRun (xS sSH g) (xf_J5_charAt_5068e g) P (0, [some (.inr (some 0)), some (.inl (nI j)), none, none, none], [], M) := mRun.vc (xm_J5_charAt_5068e g) [] 26 h

theorem xrun_J5_charAt_5068e : xRunOf sSH 5 xt_J5_charAt_5068e xf_J5_charAt_5068e := fun g as M P hT => by
  obtain ⟨⟨t, j⟩, ⟨rfl, ⟨b1, b2, b3, b4⟩, hl, hj⟩, hP⟩ := hT
  refine ⟨Nat.le_of_ble_eq_true rfl, ?_⟩
  dsimp only at b1 b2 b3 b4 hl hj
  refine xv_J5_charAt_5068e g M P j ?_
  intro v1
  have e : v1 = nI t.length := by
    show (if _ then _ else _) = _
    rw [b1, sh0 (by decide), b2, if_neg (nI_nlt b3 (by decide))]
  refine ⟨(j, t.length), ⟨by rw [e], hj, by show t.length < 2 ^ 31; omega⟩, fun M3 h => ?_⟩
  have hM : M3 = M := h
  obtain ⟨k, hk, ek⟩ := hl j hj
  have er : M3 1 (nI j).toNatClampNeg = nI k := by rw [hM, nI_clamp (by omega), b4 j hj, ek]
  rw [er]
  refine ⟨fun w => absurd b1 w, fun _ => ⟨vp_in_nI (by omega) (by decide), ?_, ?_⟩⟩
  · rw [ch7 k hk, ch7c k hk]
  · rw [ch7 k hk]
    exact hP _ _ ⟨ek.symm, hM⟩
theorem xok_J5_charAt_5068e : xOK sSH yJ5_charAt_5068e cJ5_charAt_5068e 5 (some .char) 3 xt_J5_charAt_5068e := xOK.of xf_J5_charAt_5068e (by decide) (fun _ => rfl) (fun g => mCodeOK xkk_J5_charAt_5068e) (fun g => mFldL fk_RJ5 rfl) (fun g idx v h => by cases h) (fun g idx v h => by cases h) (xCalL (l := xl_J5_charAt_5068e) (List.forall_mem_cons.mpr ⟨xSite.min (idx := 138) (by decide) wc_J9_min_7cf53 wk_RJ5_138 wt_J9_min_7cf53 wn_RJ9, List.forall_mem_cons.mpr ⟨xSite.S (idx := 144) xok_J0_checkIndex_df160 (fun _ h => h) (by decide) (by decide) wc_J0_checkIndex_df160 wk_RJ5_144 wt_J0_checkIndex_df160 wn_RJ0 wd_J0_checkIndex_df160, fun _ h => absurd h List.not_mem_nil⟩⟩) (fun _ => rfl)) xrun_J5_charAt_5068e

theorem xrc_J5_charAt_5068e : xHasC sSH RJ4 1 xt_J5_charAt_5068e := by
  intro g as M P hT hl
  obtain ⟨q, hq, -⟩ := hT
  exact sIs0 hq.1

def xpre_J4_charAt_5068e (q : List Int32 × Nat) (g : mG) (as : List mV) (M : mM) : Prop := as = [.inr (some 0), .inl (nI q.2)] ∧ SBt M q.1 ∧ sLo q.1 ∧ q.2 < q.1.length
def xpost_J4_charAt_5068e (q : List Int32 × Nat) (as : List mV) (M : mM) (v : Int32) (M' : mM) : Prop := v = q.1.getD q.2 0 ∧ M' = M
abbrev xt_J4_charAt_5068e : mG → mT := mGi xpre_J4_charAt_5068e xpost_J4_charAt_5068e
theorem xmo_J4_charAt_5068e : mMn xt_J4_charAt_5068e := mGi_mono

def xk_J4_charAt_5068e : List (Nat × mI) := [(0, .aload_n 0, 1, 0, 0, []),
  (1, .iload_n 1, 1, 1, 0, []),
  (2, .invokespecial 329, 3, 0, 0, []),
  (5, .ireturn, 1, 0, 0, [])]
theorem xkk_J4_charAt_5068e : (xk_J4_charAt_5068e.all fun e => mChk cJ4_charAt_5068e e.1 e.2) = true := by decide +kernel
def xl_J4_charAt_5068e : List (Nat × Nat × (mG → mT)) := [(3 * 329 + 2, 1 + 1, xt_J5_charAt_5068e)]
def xf_J4_charAt_5068e (g : mG) : mF := (mLk xk_J4_charAt_5068e, mLk ([] : List (Nat × Nat × Nat × Nat)), mLk (xl_J4_charAt_5068e.map fun e => (e.1, e.2.1, e.2.2 g)), mLk ([] : List (Nat × mV)), mLk ([] : List (Nat × mV)), some .char)
theorem xm_J4_charAt_5068e (g : mG) : mMono (xf_J4_charAt_5068e g) := mMonoL (g := g) (l := xl_J4_charAt_5068e) (List.forall_mem_cons.mpr ⟨xmo_J5_charAt_5068e, fun _ h => absurd h List.not_mem_nil⟩) rfl

theorem xv_J4_charAt_5068e (g : mG) (M : mM) (P : mP) (j : Nat)
    (h : ∃ x1 : List Int32 × Nat, xpre_J5_charAt_5068e x1 g [.inr (some 0), .inl (nI j)] M ∧ ∀ (r3 : Int32) (M2 : mM), xpost_J5_charAt_5068e x1 [.inr (some 0), .inl (nI j)] M r3 M2 → ((r3.toUInt32 % 65536).toInt32 = r3 ∧ P (some (.inl r3)) M2)) :
    mRun (xS sSH g) (xf_J4_charAt_5068e g) P (0, [some (.inr (some 0)), some (.inl (nI j))], [], M) := mRun.vc (xm_J4_charAt_5068e g) [] 4 h

theorem xrun_J4_charAt_5068e : xRunOf sSH 2 xt_J4_charAt_5068e xf_J4_charAt_5068e := fun g as M P hT => by
  obtain ⟨⟨t, j⟩, ⟨rfl, hS, hl, hj⟩, hP⟩ := hT
  refine ⟨Nat.le_of_ble_eq_true rfl, ?_⟩
  dsimp only at hS hl hj
  refine xv_J4_charAt_5068e g M P j ⟨(t, j), ⟨rfl, hS, hl, hj⟩, fun r M2 h => ?_⟩
  obtain ⟨h1, h2⟩ : r = t.getD j 0 ∧ M2 = M := h
  obtain ⟨k, hk, ek⟩ := hl j hj
  exact ⟨by rw [h1, ek, ch7c k hk], hP _ _ ⟨h1, h2⟩⟩
theorem xok_J4_charAt_5068e : xOK sSH yJ4_charAt_5068e cJ4_charAt_5068e 2 (some .char) 4 xt_J4_charAt_5068e := xOK.of xf_J4_charAt_5068e (by decide) (fun _ => rfl) (fun g => mCodeOK xkk_J4_charAt_5068e) (fun g => mFldL (l := []) (fun _ h => absurd h List.not_mem_nil) rfl) (fun g idx v h => by cases h) (fun g idx v h => by cases h) (xCalL (l := xl_J4_charAt_5068e) (List.forall_mem_cons.mpr ⟨xSite.SU (idx := 329) (ci := 1) xok_J5_charAt_5068e (fun _ h => h) (by decide) (by decide) xrc_J5_charAt_5068e rfl wc_J5_charAt_5068e wk_RJ4_329 (show Cond.sameMethod yJ5_charAt_5068e.cls yJ5_charAt_5068e.cls yJ5_charAt_5068e.name yJ5_charAt_5068e.desc ∈ mGW from mIn 1529 (by decide +kernel) rfl) (show Cond.superclass RJ4 yJ5_charAt_5068e.cls ∈ mGW from mIn 309 (by decide +kernel) rfl) wi_J5_charAt_5068e wn_RJ5 ⟨by decide, wd_J5_charAt_5068e.2.2⟩, fun _ h => absurd h List.not_mem_nil⟩) (fun _ => rfl)) xrun_J4_charAt_5068e

theorem xrc_J4_charAt_5068e : xHasC sSH RJ4 1 xt_J4_charAt_5068e := by
  intro g as M P hT hl
  obtain ⟨q, hq, -⟩ := hT
  exact sIs0 hq.1

theorem xrv_J4_charAt_5068e : xHasR sSH yJ4_charAt_5068e 1 xt_J4_charAt_5068e := xrc_J4_charAt_5068e

def xpre_J1_canEncode_fc78d (q : Nat) (g : mG) (as : List mV) (M : mM) : Prop := as = [.inl (nI q)] ∧ q < 128
def xpost_J1_canEncode_fc78d (q : Nat) (as : List mV) (M : mM) (v : Int32) (M' : mM) : Prop := v = nI 1 ∧ M' = M
abbrev xt_J1_canEncode_fc78d : mG → mT := mGi xpre_J1_canEncode_fc78d xpost_J1_canEncode_fc78d
theorem xmo_J1_canEncode_fc78d : mMn xt_J1_canEncode_fc78d := mGi_mono

def xk_J1_canEncode_fc78d : List (Nat × mI) := [(0, .iload_n 0, 1, 0, 0, []),
  (1, .sipush 255, 3, 0, nI 255, []),
  (4, .if_icmp .gt 7, 3, 11, 0, []),
  (7, .iconst 1, 1, 0, nI 1, []),
  (8, .goto 4, 3, 12, 0, []),
  (11, .iconst 0, 1, 0, nI 0, []),
  (12, .ireturn, 1, 0, 0, [])]
theorem xkk_J1_canEncode_fc78d : (xk_J1_canEncode_fc78d.all fun e => mChk cJ1_canEncode_fc78d e.1 e.2) = true := by decide +kernel
def xl_J1_canEncode_fc78d : List (Nat × Nat × (mG → mT)) := []
def xf_J1_canEncode_fc78d (g : mG) : mF := (mLk xk_J1_canEncode_fc78d, mLk ([] : List (Nat × Nat × Nat × Nat)), mLk (xl_J1_canEncode_fc78d.map fun e => (e.1, e.2.1, e.2.2 g)), mLk ([] : List (Nat × mV)), mLk ([] : List (Nat × mV)), some .boolean)
theorem xm_J1_canEncode_fc78d (g : mG) : mMono (xf_J1_canEncode_fc78d g) := mMonoL (g := g) (l := xl_J1_canEncode_fc78d) (fun _ h => absurd h List.not_mem_nil) rfl

theorem xv_J1_canEncode_fc78d (g : mG) (M : mM) (P : mP) (c : Nat)
    (h : ((nI 255) < (nI c) → ((nI 0) = 0 ∨ (nI 0) = 1) ∧ P (some (.inl (nI 0))) M) ∧ (¬ ((nI 255) < (nI c)) → ((nI 1) = 0 ∨ (nI 1) = 1) ∧ P (some (.inl (nI 1))) M)) :
    mRun (xS sSH g) (xf_J1_canEncode_fc78d g) P (0, [some (.inl (nI c))], [], M) := mRun.vc (xm_J1_canEncode_fc78d g) [] 6 h

theorem xrun_J1_canEncode_fc78d : xRunOf sSH 1 xt_J1_canEncode_fc78d xf_J1_canEncode_fc78d := fun g as M P hT => by
  obtain ⟨c, ⟨rfl, h1⟩, hP⟩ := hT
  refine ⟨Nat.le_of_ble_eq_true rfl, ?_⟩
  exact xv_J1_canEncode_fc78d g M P c ⟨fun w => absurd w (nI_nlt (by omega) (by decide)), fun _ => ⟨Or.inr rfl, hP _ _ ⟨rfl, rfl⟩⟩⟩
theorem xok_J1_canEncode_fc78d : xOK sSH yJ1_canEncode_fc78d cJ1_canEncode_fc78d 1 (some .boolean) 1 xt_J1_canEncode_fc78d := xOK.of xf_J1_canEncode_fc78d (by decide) (fun _ => rfl) (fun g => mCodeOK xkk_J1_canEncode_fc78d) (fun g => mFldL (l := []) (fun _ h => absurd h List.not_mem_nil) rfl) (fun g idx v h => by cases h) (fun g idx v h => by cases h) (xCalL (l := xl_J1_canEncode_fc78d) (fun _ h => absurd h List.not_mem_nil) (fun _ => rfl)) xrun_J1_canEncode_fc78d

def xpre_J5_append_3fe6f (q : List Int32 × Nat) (g : mG) (as : List mV) (M : mM) : Prop := as = [.inr (some 0), .inl (nI q.2)] ∧ SBt M q.1 ∧ q.1.length < 16 ∧ q.2 < 128
def xpost_J5_append_3fe6f (q : List Int32 × Nat) (as : List mV) (M : mM) (M' : mM) : Prop := SBt M' (q.1 ++ [nI q.2]) ∧ ∀ d, 2 ≤ d → M' d = M d
abbrev xt_J5_append_3fe6f : mG → mT := mGa xpre_J5_append_3fe6f xpost_J5_append_3fe6f
theorem xmo_J5_append_3fe6f : mMn xt_J5_append_3fe6f := mGa_mono

def xk_J5_append_3fe6f : List (Nat × mI) := [(0, .aload_n 0, 1, 0, 0, []),
  (1, .aload_n 0, 1, 0, 0, []),
  (2, .getfield 79, 3, 0, 0, []),
  (5, .iconst 1, 1, 0, nI 1, []),
  (6, .iadd, 1, 0, 0, []),
  (7, .invokevirtual 100, 3, 0, 0, []),
  (10, .aload_n 0, 1, 0, 0, []),
  (11, .invokevirtual 83, 3, 0, 0, []),
  (14, .ifCond .eq 31, 3, 45, 0, []),
  (17, .iload_n 1, 1, 1, 0, []),
  (18, .invokestatic 191, 3, 0, 0, []),
  (21, .ifCond .eq 24, 3, 45, 0, []),
  (24, .aload_n 0, 1, 0, 0, []),
  (25, .getfield 15, 3, 0, 0, []),
  (28, .aload_n 0, 1, 0, 0, []),
  (29, .dup, 1, 0, 0, []),
  (30, .getfield 79, 3, 0, 0, []),
  (33, .dup_x1, 1, 0, 0, []),
  (34, .iconst 1, 1, 0, nI 1, []),
  (35, .iadd, 1, 0, 0, []),
  (36, .putfield 79, 3, 0, 0, []),
  (39, .iload_n 1, 1, 1, 0, []),
  (40, .i2b, 1, 0, 0, []),
  (41, .bastore, 1, 0, 0, []),
  (42, .goto 33, 3, 75, 0, []),
  (45, .aload_n 0, 1, 0, 0, []),
  (46, .invokevirtual 83, 3, 0, 0, []),
  (49, .ifCond .eq 7, 3, 56, 0, []),
  (52, .aload_n 0, 1, 0, 0, []),
  (53, .invokevirtual 195, 3, 0, 0, []),
  (56, .aload_n 0, 1, 0, 0, []),
  (57, .getfield 15, 3, 0, 0, []),
  (60, .aload_n 0, 1, 0, 0, []),
  (61, .dup, 1, 0, 0, []),
  (62, .getfield 79, 3, 0, 0, []),
  (65, .dup_x1, 1, 0, 0, []),
  (66, .iconst 1, 1, 0, nI 1, []),
  (67, .iadd, 1, 0, 0, []),
  (68, .putfield 79, 3, 0, 0, []),
  (71, .iload_n 1, 1, 1, 0, []),
  (72, .invokestatic 197, 3, 0, 0, []),
  (75, .aload_n 0, 1, 0, 0, []),
  (76, .areturn, 1, 0, 0, [])]
theorem xkk_J5_append_3fe6f : (xk_J5_append_3fe6f.all fun e => mChk cJ5_append_3fe6f e.1 e.2) = true := by decide +kernel
def xl_J5_append_3fe6f : List (Nat × Nat × (mG → mT)) := [(3 * 100, 1 + 1, xt_J5_ensureCapacityInternal_d00df), (3 * 83, 0 + 1, xt_J5_isLatin1_aae02), (3 * 191 + 1, 1, xt_J1_canEncode_fc78d)]
def xf_J5_append_3fe6f (g : mG) : mF := (mLk xk_J5_append_3fe6f, mLk fl_RJ5, mLk (xl_J5_append_3fe6f.map fun e => (e.1, e.2.1, e.2.2 g)), mLk ([] : List (Nat × mV)), mLk ([] : List (Nat × mV)), some (.object "java/lang/AbstractStringBuilder"))
theorem xm_J5_append_3fe6f (g : mG) : mMono (xf_J5_append_3fe6f g) := mMonoL (g := g) (l := xl_J5_append_3fe6f) (List.forall_mem_cons.mpr ⟨xmo_J5_ensureCapacityInternal_d00df, List.forall_mem_cons.mpr ⟨xmo_J5_isLatin1_aae02, List.forall_mem_cons.mpr ⟨xmo_J1_canEncode_fc78d, fun _ h => absurd h List.not_mem_nil⟩⟩⟩) rfl

theorem xv_J5_append_3fe6f (g : mG) (M : mM) (P : mP) (c : Nat)
    (h : ∃ x1 : Nat, xpre_J5_ensureCapacityInternal_d00df x1 g [.inr (some 0), .inl ((M 0 3) + (nI 1))] M ∧ ∀ M2 : mM, xpost_J5_ensureCapacityInternal_d00df x1 [.inr (some 0), .inl ((M 0 3) + (nI 1))] M M2 → (∃ x3 : Unit, xpre_J5_isLatin1_aae02 x3 g [.inr (some 0)] M2 ∧ ∀ (r5 : Int32) (M4 : mM), xpost_J5_isLatin1_aae02 x3 [.inr (some 0)] M2 r5 M4 → ((r5 = 0 → ∃ x7 : Unit, xpre_J5_isLatin1_aae02 x7 g [.inr (some 0)] M4 ∧ ∀ (r9 : Int32) (M8 : mM), xpost_J5_isLatin1_aae02 x7 [.inr (some 0)] M4 r9 M8 → ((r9 = 0 → let M11 : mM := mW1 M8 0 3 ((M8 0 3) + (nI 1)); False) ∧ (¬ (r9 = 0) → False))) ∧ (¬ (r5 = 0) → ∃ x12 : Nat, xpre_J1_canEncode_fc78d x12 g [.inl (nI c)] M4 ∧ ∀ (r14 : Int32) (M13 : mM), xpost_J1_canEncode_fc78d x12 [.inl (nI c)] M4 r14 M13 → ((r14 = 0 → ∃ x16 : Unit, xpre_J5_isLatin1_aae02 x16 g [.inr (some 0)] M13 ∧ ∀ (r18 : Int32) (M17 : mM), xpost_J5_isLatin1_aae02 x16 [.inr (some 0)] M13 r18 M17 → ((r18 = 0 → let M20 : mM := mW1 M17 0 3 ((M17 0 3) + (nI 1)); False) ∧ (¬ (r18 = 0) → False))) ∧ (¬ (r14 = 0) → let M21 : mM := mW1 M13 0 3 ((M13 0 3) + (nI 1)); vp_in (M13 0 3) 16 ∧ (let M22 : mM := mW1 M21 1 ((M13 0 3).toNatClampNeg) (((nI c).toInt8.toInt32).toInt8.toInt32); P (some (.inr (some 0))) M22))))))) :
    mRun (xS sSH g) (xf_J5_append_3fe6f g) P (0, [some (.inr (some 0)), some (.inl (nI c))], [], M) := mRun.vc (xm_J5_append_3fe6f g) [] 27 h

theorem xrun_J5_append_3fe6f : xRunOf sSH 2 xt_J5_append_3fe6f xf_J5_append_3fe6f := fun g as M P hT => by
  obtain ⟨⟨t, c⟩, ⟨rfl, ⟨b1, b2, b3, b4⟩, h2, h3⟩, hP⟩ := hT
  refine ⟨Nat.le_of_ble_eq_true rfl, ?_⟩
  dsimp only at b1 b2 b3 b4 h2 h3
  refine xv_J5_append_3fe6f g M P c ⟨t.length + 1, ⟨by rw [b2, nI_add], b1, h2⟩, fun M2 hM => ?_⟩
  rw [show M2 = M from hM]
  refine ⟨(), ⟨rfl, b1⟩, fun r5 M4 h => ?_⟩
  obtain ⟨e1, e2⟩ : r5 = nI 1 ∧ M4 = M := h
  rw [e1, e2]
  refine ⟨fun w => absurd w (by decide), fun _ => ⟨c, ⟨rfl, h3⟩, fun r14 M13 h => ?_⟩⟩
  obtain ⟨e3, e4⟩ : r14 = nI 1 ∧ M13 = M := h
  rw [e3, e4]
  refine ⟨fun w => absurd w (by decide), fun _ => ?_⟩
  intro M21
  refine ⟨by rw [b2]; exact vp_in_nI h2 (by decide), ?_⟩
  intro M22
  have hM22 : M22 = mW1 (mW1 M 0 3 (nI (t.length + 1))) 1 t.length (nI c) := by
    show mW1 (mW1 M 0 3 _) 1 _ _ = _
    rw [b2, nI_clamp (by omega), ch7b c h3, nI_add]
  rw [hM22]
  have fin : ∀ N : mM, N = mW1 (mW1 M 0 3 (nI (t.length + 1))) 1 t.length (nI c) → SBt N (t ++ [nI c]) ∧ ∀ d, 2 ≤ d → N d = M d := ?_
  · exact hP _ (fin _ rfl)
  rintro N rfl
  refine ⟨⟨?_, ?_, ?_, fun j hj => ?_⟩, fun d hd => ?_⟩
  · rw [sw_c (by decide), sw_k (by decide)]
    exact b1
  · rw [sw_c (by decide), sw_a, List.length_append]
    rfl
  · rw [List.length_append]
    exact h2
  · rw [List.length_append] at hj
    have hj : j < t.length + 1 := hj
    by_cases e : j = t.length
    · rw [e, sw_a, gd_r (Nat.le_refl _), Nat.sub_self]
      rfl
    · rw [sw_k e, sw_c (by decide), b4 j (by omega), gd_l (by omega)]
  · rw [sw_c (by omega), sw_c (by omega)]
theorem xok_J5_append_3fe6f : xOK sSH yJ5_append_3fe6f cJ5_append_3fe6f 2 (some (.object "java/lang/AbstractStringBuilder")) 2 xt_J5_append_3fe6f := xOK.of xf_J5_append_3fe6f (by decide) (fun _ => rfl) (fun g => mCodeOK xkk_J5_append_3fe6f) (fun g => mFldL fk_RJ5 rfl) (fun g idx v h => by cases h) (fun g idx v h => by cases h) (xCalL (l := xl_J5_append_3fe6f) (List.forall_mem_cons.mpr ⟨xSite.U (idx := 100) (C := RJ4) xok_J5_ensureCapacityInternal_d00df (fun _ h => h) (by decide) (by decide) xrc_J5_ensureCapacityInternal_d00df wc_J5_ensureCapacityInternal_d00df wk_RJ5_100 (show Cond.sameMethod yJ5_ensureCapacityInternal_d00df.cls yJ5_ensureCapacityInternal_d00df.cls yJ5_ensureCapacityInternal_d00df.name yJ5_ensureCapacityInternal_d00df.desc ∈ mGW from mIn 1519 (by decide +kernel) rfl) wi_J5_ensureCapacityInternal_d00df (xInP 0 rfl) wn_RJ5 wd_J5_ensureCapacityInternal_d00df, List.forall_mem_cons.mpr ⟨xSite.U (idx := 83) (C := RJ4) xok_J5_isLatin1_aae02 (fun _ h => h) (by decide) (by decide) xrc_J5_isLatin1_aae02 wc_J5_isLatin1_aae02 wk_RJ5_83 (show Cond.sameMethod yJ5_isLatin1_aae02.cls yJ5_isLatin1_aae02.cls yJ5_isLatin1_aae02.name yJ5_isLatin1_aae02.desc ∈ mGW from mIn 723 (by decide +kernel) rfl) wi_J5_isLatin1_aae02 (xIn (mIn 724 (by decide +kernel) rfl)) wn_RJ5 wd_J5_isLatin1_aae02, List.forall_mem_cons.mpr ⟨xSite.S (idx := 191) xok_J1_canEncode_fc78d (fun _ h => h) (by decide) (by decide) wc_J1_canEncode_fc78d wk_RJ5_191 wt_J1_canEncode_fc78d wn_RJ1 wd_J1_canEncode_fc78d, fun _ h => absurd h List.not_mem_nil⟩⟩⟩) (fun _ => rfl)) xrun_J5_append_3fe6f

theorem xrc_J5_append_3fe6f : xHasC sSH RJ4 1 xt_J5_append_3fe6f := by
  intro g as M P hT hl
  obtain ⟨q, hq, -⟩ := hT
  exact sIs0 hq.1

def xpre_J4_append_cf468 (q : List Int32 × Nat) (g : mG) (as : List mV) (M : mM) : Prop := as = [.inr (some 0), .inl (nI q.2)] ∧ SBt M q.1 ∧ q.1.length < 16 ∧ q.2 < 128
def xpost_J4_append_cf468 (q : List Int32 × Nat) (as : List mV) (M : mM) (M' : mM) : Prop := SBt M' (q.1 ++ [nI q.2]) ∧ ∀ d, 2 ≤ d → M' d = M d
abbrev xt_J4_append_cf468 : mG → mT := mGa xpre_J4_append_cf468 xpost_J4_append_cf468
theorem xmo_J4_append_cf468 : mMn xt_J4_append_cf468 := mGa_mono

def xk_J4_append_cf468 : List (Nat × mI) := [(0, .aload_n 0, 1, 0, 0, []),
  (1, .iload_n 1, 1, 1, 0, []),
  (2, .invokespecial 50, 3, 0, 0, []),
  (5, .pop, 1, 0, 0, []),
  (6, .aload_n 0, 1, 0, 0, []),
  (7, .areturn, 1, 0, 0, [])]
theorem xkk_J4_append_cf468 : (xk_J4_append_cf468.all fun e => mChk cJ4_append_cf468 e.1 e.2) = true := by decide +kernel
def xl_J4_append_cf468 : List (Nat × Nat × (mG → mT)) := [(3 * 50 + 2, 1 + 1, xt_J5_append_3fe6f)]
def xf_J4_append_cf468 (g : mG) : mF := (mLk xk_J4_append_cf468, mLk ([] : List (Nat × Nat × Nat × Nat)), mLk (xl_J4_append_cf468.map fun e => (e.1, e.2.1, e.2.2 g)), mLk ([] : List (Nat × mV)), mLk ([] : List (Nat × mV)), some (.object "java/lang/StringBuilder"))
theorem xm_J4_append_cf468 (g : mG) : mMono (xf_J4_append_cf468 g) := mMonoL (g := g) (l := xl_J4_append_cf468) (List.forall_mem_cons.mpr ⟨xmo_J5_append_3fe6f, fun _ h => absurd h List.not_mem_nil⟩) rfl

theorem xv_J4_append_cf468 (g : mG) (M : mM) (P : mP) (c : Nat)
    (h : ∃ x1 : List Int32 × Nat, xpre_J5_append_3fe6f x1 g [.inr (some 0), .inl (nI c)] M ∧ ∀ M2 : mM, xpost_J5_append_3fe6f x1 [.inr (some 0), .inl (nI c)] M M2 → (P (some (.inr (some 0))) M2)) :
    mRun (xS sSH g) (xf_J4_append_cf468 g) P (0, [some (.inr (some 0)), some (.inl (nI c))], [], M) := mRun.vc (xm_J4_append_cf468 g) [] 6 h

theorem xrun_J4_append_cf468 : xRunOf sSH 2 xt_J4_append_cf468 xf_J4_append_cf468 := fun g as M P hT => by
  obtain ⟨⟨t, c⟩, ⟨rfl, hS, h2, h3⟩, hP⟩ := hT
  refine ⟨Nat.le_of_ble_eq_true rfl, ?_⟩
  exact xv_J4_append_cf468 g M P c ⟨(t, c), ⟨rfl, hS, h2, h3⟩, fun M2 h => hP _ h⟩
theorem xok_J4_append_cf468 : xOK sSH yJ4_append_cf468 cJ4_append_cf468 2 (some (.object "java/lang/StringBuilder")) 3 xt_J4_append_cf468 := xOK.of xf_J4_append_cf468 (by decide) (fun _ => rfl) (fun g => mCodeOK xkk_J4_append_cf468) (fun g => mFldL (l := []) (fun _ h => absurd h List.not_mem_nil) rfl) (fun g idx v h => by cases h) (fun g idx v h => by cases h) (xCalL (l := xl_J4_append_cf468) (List.forall_mem_cons.mpr ⟨xSite.SU (idx := 50) (ci := 1) xok_J5_append_3fe6f (fun _ h => h) (by decide) (by decide) xrc_J5_append_3fe6f rfl wc_J5_append_3fe6f wk_RJ4_50 (show Cond.sameMethod yJ5_append_3fe6f.cls yJ5_append_3fe6f.cls yJ5_append_3fe6f.name yJ5_append_3fe6f.desc ∈ mGW from mIn 1526 (by decide +kernel) rfl) (show Cond.superclass RJ4 yJ5_append_3fe6f.cls ∈ mGW from mIn 309 (by decide +kernel) rfl) wi_J5_append_3fe6f wn_RJ5 ⟨by decide, wd_J5_append_3fe6f.2.2⟩, fun _ h => absurd h List.not_mem_nil⟩) (fun _ => rfl)) xrun_J4_append_cf468

theorem xrc_J4_append_cf468 : xHasC sSH RJ4 1 xt_J4_append_cf468 := by
  intro g as M P hT hl
  obtain ⟨q, hq, -⟩ := hT
  exact sIs0 hq.1

theorem xrv_J4_append_cf468 : xHasR sSH yJ4_append_cf468 1 xt_J4_append_cf468 := xrc_J4_append_cf468

def xpre_J0_coder_7d493 (q : Nat × List Int32) (g : mG) (as : List mV) (M : mM) : Prop := as = [.inr (some q.1)] ∧ sTx g M q.1 q.2
def xpost_J0_coder_7d493 (q : Nat × List Int32) (as : List mV) (M : mM) (v : Int32) (M' : mM) : Prop := v = 0 ∧ M' = M
abbrev xt_J0_coder_7d493 : mG → mT := mGi xpre_J0_coder_7d493 xpost_J0_coder_7d493
theorem xmo_J0_coder_7d493 : mMn xt_J0_coder_7d493 := mGi_mono

def xk_J0_coder_7d493 : List (Nat × mI) := [(0, .getstatic 38, 3, 0, 0, []),
  (3, .ifCond .eq 10, 3, 13, 0, []),
  (6, .aload_n 0, 1, 0, 0, []),
  (7, .getfield 15, 3, 0, 0, []),
  (10, .goto 4, 3, 14, 0, []),
  (13, .iconst 1, 1, 0, nI 1, []),
  (14, .ireturn, 1, 0, 0, [])]
theorem xkk_J0_coder_7d493 : (xk_J0_coder_7d493.all fun e => mChk cJ0_coder_7d493 e.1 e.2) = true := by decide +kernel
def xl_J0_coder_7d493 : List (Nat × Nat × (mG → mT)) := []
def xf_J0_coder_7d493 (g : mG) : mF := (mLk xk_J0_coder_7d493, mLk fl_RJ0, mLk (xl_J0_coder_7d493.map fun e => (e.1, e.2.1, e.2.2 g)), mLk ([] : List (Nat × mV)), mLk ([(38, .inl 1)] : List (Nat × mV)), some .byte)
theorem xm_J0_coder_7d493 (g : mG) : mMono (xf_J0_coder_7d493 g) := mMonoL (g := g) (l := xl_J0_coder_7d493) (fun _ h => absurd h List.not_mem_nil) rfl

theorem v_cdx_0 (g : mG) (M : mM) (P : mP) 
    (h : ((1 : Int32) = 0 → (nI 1).toInt8.toInt32 = (nI 1) ∧ P (some (.inl (nI 1))) M) ∧ (¬ ((1 : Int32) = 0) → (0 : Int32).toInt8.toInt32 = (0 : Int32) ∧ P (some (.inl (0 : Int32))) M)) :
    mRun (xS sSH g) (xf_J0_coder_7d493 g) P (0, [some (.inr (some 1000))], [], M) := mRun.vc (xm_J0_coder_7d493 g) [] 6 h

theorem v_cdx_1 (g : mG) (M : mM) (P : mP) 
    (h : ((1 : Int32) = 0 → (nI 1).toInt8.toInt32 = (nI 1) ∧ P (some (.inl (nI 1))) M) ∧ (¬ ((1 : Int32) = 0) → (0 : Int32).toInt8.toInt32 = (0 : Int32) ∧ P (some (.inl (0 : Int32))) M)) :
    mRun (xS sSH g) (xf_J0_coder_7d493 g) P (0, [some (.inr (some 1001))], [], M) := mRun.vc (xm_J0_coder_7d493 g) [] 6 h

theorem v_cdx_2 (g : mG) (M : mM) (P : mP) 
    (h : ((1 : Int32) = 0 → (nI 1).toInt8.toInt32 = (nI 1) ∧ P (some (.inl (nI 1))) M) ∧ (¬ ((1 : Int32) = 0) → (0 : Int32).toInt8.toInt32 = (0 : Int32) ∧ P (some (.inl (0 : Int32))) M)) :
    mRun (xS sSH g) (xf_J0_coder_7d493 g) P (0, [some (.inr (some 1002))], [], M) := mRun.vc (xm_J0_coder_7d493 g) [] 6 h

theorem v_cdx_3 (g : mG) (M : mM) (P : mP) 
    (h : ((1 : Int32) = 0 → (nI 1).toInt8.toInt32 = (nI 1) ∧ P (some (.inl (nI 1))) M) ∧ (¬ ((1 : Int32) = 0) → (0 : Int32).toInt8.toInt32 = (0 : Int32) ∧ P (some (.inl (0 : Int32))) M)) :
    mRun (xS sSH g) (xf_J0_coder_7d493 g) P (0, [some (.inr (some 1003))], [], M) := mRun.vc (xm_J0_coder_7d493 g) [] 6 h

theorem v_cdx_4 (g : mG) (M : mM) (P : mP) 
    (h : ((1 : Int32) = 0 → (nI 1).toInt8.toInt32 = (nI 1) ∧ P (some (.inl (nI 1))) M) ∧ (¬ ((1 : Int32) = 0) → (0 : Int32).toInt8.toInt32 = (0 : Int32) ∧ P (some (.inl (0 : Int32))) M)) :
    mRun (xS sSH g) (xf_J0_coder_7d493 g) P (0, [some (.inr (some 1004))], [], M) := mRun.vc (xm_J0_coder_7d493 g) [] 6 h

theorem v_cdx_5 (g : mG) (M : mM) (P : mP) 
    (h : ((1 : Int32) = 0 → (nI 1).toInt8.toInt32 = (nI 1) ∧ P (some (.inl (nI 1))) M) ∧ (¬ ((1 : Int32) = 0) → (0 : Int32).toInt8.toInt32 = (0 : Int32) ∧ P (some (.inl (0 : Int32))) M)) :
    mRun (xS sSH g) (xf_J0_coder_7d493 g) P (0, [some (.inr (some 1005))], [], M) := mRun.vc (xm_J0_coder_7d493 g) [] 6 h

theorem v_cdx_6 (g : mG) (M : mM) (P : mP) 
    (h : ((1 : Int32) = 0 → (nI 1).toInt8.toInt32 = (nI 1) ∧ P (some (.inl (nI 1))) M) ∧ (¬ ((1 : Int32) = 0) → (0 : Int32).toInt8.toInt32 = (0 : Int32) ∧ P (some (.inl (0 : Int32))) M)) :
    mRun (xS sSH g) (xf_J0_coder_7d493 g) P (0, [some (.inr (some 1006))], [], M) := mRun.vc (xm_J0_coder_7d493 g) [] 6 h

theorem v_cdx_7 (g : mG) (M : mM) (P : mP) 
    (h : ((1 : Int32) = 0 → (nI 1).toInt8.toInt32 = (nI 1) ∧ P (some (.inl (nI 1))) M) ∧ (¬ ((1 : Int32) = 0) → (0 : Int32).toInt8.toInt32 = (0 : Int32) ∧ P (some (.inl (0 : Int32))) M)) :
    mRun (xS sSH g) (xf_J0_coder_7d493 g) P (0, [some (.inr (some 1007))], [], M) := mRun.vc (xm_J0_coder_7d493 g) [] 6 h

theorem v_cdx_8 (g : mG) (M : mM) (P : mP) 
    (h : ((1 : Int32) = 0 → (nI 1).toInt8.toInt32 = (nI 1) ∧ P (some (.inl (nI 1))) M) ∧ (¬ ((1 : Int32) = 0) → (0 : Int32).toInt8.toInt32 = (0 : Int32) ∧ P (some (.inl (0 : Int32))) M)) :
    mRun (xS sSH g) (xf_J0_coder_7d493 g) P (0, [some (.inr (some 1008))], [], M) := mRun.vc (xm_J0_coder_7d493 g) [] 6 h

theorem v_cdx_9 (g : mG) (M : mM) (P : mP) 
    (h : ((1 : Int32) = 0 → (nI 1).toInt8.toInt32 = (nI 1) ∧ P (some (.inl (nI 1))) M) ∧ (¬ ((1 : Int32) = 0) → (0 : Int32).toInt8.toInt32 = (0 : Int32) ∧ P (some (.inl (0 : Int32))) M)) :
    mRun (xS sSH g) (xf_J0_coder_7d493 g) P (0, [some (.inr (some 1009))], [], M) := mRun.vc (xm_J0_coder_7d493 g) [] 6 h

theorem v_cdx_10 (g : mG) (M : mM) (P : mP) 
    (h : ((1 : Int32) = 0 → (nI 1).toInt8.toInt32 = (nI 1) ∧ P (some (.inl (nI 1))) M) ∧ (¬ ((1 : Int32) = 0) → (0 : Int32).toInt8.toInt32 = (0 : Int32) ∧ P (some (.inl (0 : Int32))) M)) :
    mRun (xS sSH g) (xf_J0_coder_7d493 g) P (0, [some (.inr (some 1010))], [], M) := mRun.vc (xm_J0_coder_7d493 g) [] 6 h

theorem v_cdx_11 (g : mG) (M : mM) (P : mP) 
    (h : ((1 : Int32) = 0 → (nI 1).toInt8.toInt32 = (nI 1) ∧ P (some (.inl (nI 1))) M) ∧ (¬ ((1 : Int32) = 0) → (0 : Int32).toInt8.toInt32 = (0 : Int32) ∧ P (some (.inl (0 : Int32))) M)) :
    mRun (xS sSH g) (xf_J0_coder_7d493 g) P (0, [some (.inr (some 1011))], [], M) := mRun.vc (xm_J0_coder_7d493 g) [] 6 h

theorem v_cdx_12 (g : mG) (M : mM) (P : mP) 
    (h : ((1 : Int32) = 0 → (nI 1).toInt8.toInt32 = (nI 1) ∧ P (some (.inl (nI 1))) M) ∧ (¬ ((1 : Int32) = 0) → (0 : Int32).toInt8.toInt32 = (0 : Int32) ∧ P (some (.inl (0 : Int32))) M)) :
    mRun (xS sSH g) (xf_J0_coder_7d493 g) P (0, [some (.inr (some 1012))], [], M) := mRun.vc (xm_J0_coder_7d493 g) [] 6 h

theorem v_cdx_13 (g : mG) (M : mM) (P : mP) 
    (h : ((1 : Int32) = 0 → (nI 1).toInt8.toInt32 = (nI 1) ∧ P (some (.inl (nI 1))) M) ∧ (¬ ((1 : Int32) = 0) → (0 : Int32).toInt8.toInt32 = (0 : Int32) ∧ P (some (.inl (0 : Int32))) M)) :
    mRun (xS sSH g) (xf_J0_coder_7d493 g) P (0, [some (.inr (some 1013))], [], M) := mRun.vc (xm_J0_coder_7d493 g) [] 6 h

theorem v_cdx_14 (g : mG) (M : mM) (P : mP) 
    (h : ((1 : Int32) = 0 → (nI 1).toInt8.toInt32 = (nI 1) ∧ P (some (.inl (nI 1))) M) ∧ (¬ ((1 : Int32) = 0) → (0 : Int32).toInt8.toInt32 = (0 : Int32) ∧ P (some (.inl (0 : Int32))) M)) :
    mRun (xS sSH g) (xf_J0_coder_7d493 g) P (0, [some (.inr (some 1014))], [], M) := mRun.vc (xm_J0_coder_7d493 g) [] 6 h

theorem v_cdx_15 (g : mG) (M : mM) (P : mP) 
    (h : ((1 : Int32) = 0 → (nI 1).toInt8.toInt32 = (nI 1) ∧ P (some (.inl (nI 1))) M) ∧ (¬ ((1 : Int32) = 0) → (0 : Int32).toInt8.toInt32 = (0 : Int32) ∧ P (some (.inl (0 : Int32))) M)) :
    mRun (xS sSH g) (xf_J0_coder_7d493 g) P (0, [some (.inr (some 1015))], [], M) := mRun.vc (xm_J0_coder_7d493 g) [] 6 h

theorem v_cdx_16 (g : mG) (M : mM) (P : mP) 
    (h : ((1 : Int32) = 0 → (nI 1).toInt8.toInt32 = (nI 1) ∧ P (some (.inl (nI 1))) M) ∧ (¬ ((1 : Int32) = 0) → (0 : Int32).toInt8.toInt32 = (0 : Int32) ∧ P (some (.inl (0 : Int32))) M)) :
    mRun (xS sSH g) (xf_J0_coder_7d493 g) P (0, [some (.inr (some 1016))], [], M) := mRun.vc (xm_J0_coder_7d493 g) [] 6 h

theorem v_cdx_t (ga : Nat → Nat) (gD : va_G) (gc : Nat → ClassId) (go : Option Nat) (L : Nat) (ge : List mH) (M : mM) (P : mP) 
    (h : ((1 : Int32) = 0 → (nI 1).toInt8.toInt32 = (nI 1) ∧ P (some (.inl (nI 1))) M) ∧ (¬ ((1 : Int32) = 0) → (M 2 1).toInt8.toInt32 = (M 2 1) ∧ P (some (.inl (M 2 1))) M)) :
    mRun (xS sSH (ga, gD, gc, go, (5, 0, [some 3, none, none, none]) :: (3, L, []) :: ge)) (xf_J0_coder_7d493 (ga, gD, gc, go, (5, 0, [some 3, none, none, none]) :: (3, L, []) :: ge)) P (0, [some (.inr (some 2))], [], M) := mRun.vc (xm_J0_coder_7d493 (ga, gD, gc, go, (5, 0, [some 3, none, none, none]) :: (3, L, []) :: ge)) [] 6 h

set_option maxHeartbeats 2000000 in
theorem xrun_J0_coder_7d493 : xRunOf sSH 1 xt_J0_coder_7d493 xf_J0_coder_7d493 := fun g as M P hT => by
  obtain ⟨⟨a, u⟩, ⟨rfl, hT⟩, hP⟩ := hT
  refine ⟨Nat.le_of_ble_eq_true rfl, ?_⟩
  dsimp only at hT
  rcases hT with ⟨w, hw, rfl, rfl⟩ | ⟨rfl, c1, c0, c2, ge, hg⟩
  · rcases (by omega : w = 0 ∨ w = 1 ∨ w = 2 ∨ w = 3 ∨ w = 4 ∨ w = 5 ∨ w = 6 ∨ w = 7 ∨ w = 8 ∨ w = 9 ∨ w = 10 ∨ w = 11 ∨ w = 12 ∨ w = 13 ∨ w = 14 ∨ w = 15 ∨ w = 16) with rfl | rfl | rfl | rfl | rfl | rfl | rfl | rfl | rfl | rfl | rfl | rfl | rfl | rfl | rfl | rfl | rfl
    · exact v_cdx_0 g M P ⟨fun w => absurd w (by decide), fun _ => ⟨by decide, hP _ _ ⟨rfl, rfl⟩⟩⟩
    · exact v_cdx_1 g M P ⟨fun w => absurd w (by decide), fun _ => ⟨by decide, hP _ _ ⟨rfl, rfl⟩⟩⟩
    · exact v_cdx_2 g M P ⟨fun w => absurd w (by decide), fun _ => ⟨by decide, hP _ _ ⟨rfl, rfl⟩⟩⟩
    · exact v_cdx_3 g M P ⟨fun w => absurd w (by decide), fun _ => ⟨by decide, hP _ _ ⟨rfl, rfl⟩⟩⟩
    · exact v_cdx_4 g M P ⟨fun w => absurd w (by decide), fun _ => ⟨by decide, hP _ _ ⟨rfl, rfl⟩⟩⟩
    · exact v_cdx_5 g M P ⟨fun w => absurd w (by decide), fun _ => ⟨by decide, hP _ _ ⟨rfl, rfl⟩⟩⟩
    · exact v_cdx_6 g M P ⟨fun w => absurd w (by decide), fun _ => ⟨by decide, hP _ _ ⟨rfl, rfl⟩⟩⟩
    · exact v_cdx_7 g M P ⟨fun w => absurd w (by decide), fun _ => ⟨by decide, hP _ _ ⟨rfl, rfl⟩⟩⟩
    · exact v_cdx_8 g M P ⟨fun w => absurd w (by decide), fun _ => ⟨by decide, hP _ _ ⟨rfl, rfl⟩⟩⟩
    · exact v_cdx_9 g M P ⟨fun w => absurd w (by decide), fun _ => ⟨by decide, hP _ _ ⟨rfl, rfl⟩⟩⟩
    · exact v_cdx_10 g M P ⟨fun w => absurd w (by decide), fun _ => ⟨by decide, hP _ _ ⟨rfl, rfl⟩⟩⟩
    · exact v_cdx_11 g M P ⟨fun w => absurd w (by decide), fun _ => ⟨by decide, hP _ _ ⟨rfl, rfl⟩⟩⟩
    · exact v_cdx_12 g M P ⟨fun w => absurd w (by decide), fun _ => ⟨by decide, hP _ _ ⟨rfl, rfl⟩⟩⟩
    · exact v_cdx_13 g M P ⟨fun w => absurd w (by decide), fun _ => ⟨by decide, hP _ _ ⟨rfl, rfl⟩⟩⟩
    · exact v_cdx_14 g M P ⟨fun w => absurd w (by decide), fun _ => ⟨by decide, hP _ _ ⟨rfl, rfl⟩⟩⟩
    · exact v_cdx_15 g M P ⟨fun w => absurd w (by decide), fun _ => ⟨by decide, hP _ _ ⟨rfl, rfl⟩⟩⟩
    · exact v_cdx_16 g M P ⟨fun w => absurd w (by decide), fun _ => ⟨by decide, hP _ _ ⟨rfl, rfl⟩⟩⟩
  · obtain ⟨ga, gD, gc, go, gx⟩ := g
    have hg : gx = _ := hg
    subst hg
    exact v_cdx_t ga gD gc go u.length ge M P ⟨fun w => absurd w (by decide), fun _ => ⟨by rw [c1]; decide, hP _ _ ⟨c1, rfl⟩⟩⟩
theorem xsk_J0_coder_7d493 : mStaT RJ0 xf_J0_coder_7d493 := mStaL (l := fun g => ([(38, .inl 1)] : List (Nat × mV))) (fun g => List.forall_mem_cons.mpr ⟨Or.inl ⟨rfl, (show Cond.fieldLink RJ0 38 "java/lang/String" "COMPACT_STRINGS" "Z" ∈ mGW from mIn 420 (by decide +kernel) rfl)⟩, fun _ h => absurd h List.not_mem_nil⟩) (fun _ => rfl)
theorem xok_J0_coder_7d493 : xOK sSH yJ0_coder_7d493 cJ0_coder_7d493 1 (some .byte) 1 xt_J0_coder_7d493 := xOK.of xf_J0_coder_7d493 (by decide) (fun _ => rfl) (fun g => mCodeOK xkk_J0_coder_7d493) (fun g => mFldL fk_RJ0 rfl) (fun g idx v h => by cases h) xsk_J0_coder_7d493 (xCalL (l := xl_J0_coder_7d493) (fun _ h => absurd h List.not_mem_nil) (fun _ => rfl)) xrun_J0_coder_7d493

theorem xrv_J0_coder_7d493 : xHasR sSH yJ0_coder_7d493 0 xt_J0_coder_7d493 := by
  intro g as M P hT hl
  obtain ⟨q, hq, -⟩ := hT
  first | exact sIsT hq.1 hq.2 | exact sIsT hq.1 hq.2.1

def xpre_J0_length_8abf5 (q : Nat × List Int32) (g : mG) (as : List mV) (M : mM) : Prop := as = [.inr (some q.1)] ∧ sTx g M q.1 q.2
def xpost_J0_length_8abf5 (q : Nat × List Int32) (as : List mV) (M : mM) (v : Int32) (M' : mM) : Prop := v = nI q.2.length ∧ M' = M
abbrev xt_J0_length_8abf5 : mG → mT := mGi xpre_J0_length_8abf5 xpost_J0_length_8abf5
theorem xmo_J0_length_8abf5 : mMn xt_J0_length_8abf5 := mGi_mono

def xk_J0_length_8abf5 : List (Nat × mI) := [(0, .aload_n 0, 1, 0, 0, []),
  (1, .getfield 9, 3, 0, 0, []),
  (4, .arraylength, 1, 0, 0, []),
  (5, .aload_n 0, 1, 0, 0, []),
  (6, .invokevirtual 335, 3, 0, 0, []),
  (9, .ishr, 1, 0, 0, []),
  (10, .ireturn, 1, 0, 0, [])]
theorem xkk_J0_length_8abf5 : (xk_J0_length_8abf5.all fun e => mChk cJ0_length_8abf5 e.1 e.2) = true := by decide +kernel
def xl_J0_length_8abf5 : List (Nat × Nat × (mG → mT)) := [(3 * 335, 0 + 1, xt_J0_coder_7d493)]
def xf_J0_length_8abf5 (g : mG) : mF := (mLk xk_J0_length_8abf5, mLk fl_RJ0, mLk (xl_J0_length_8abf5.map fun e => (e.1, e.2.1, e.2.2 g)), mLk ([] : List (Nat × mV)), mLk ([] : List (Nat × mV)), some .int)
theorem xm_J0_length_8abf5 (g : mG) : mMono (xf_J0_length_8abf5 g) := mMonoL (g := g) (l := xl_J0_length_8abf5) (List.forall_mem_cons.mpr ⟨xmo_J0_coder_7d493, fun _ h => absurd h List.not_mem_nil⟩) rfl

theorem v_lnx_0 (g : mG) (M : mM) (P : mP) 
    (h : ∃ x1 : Nat × List Int32, xpre_J0_coder_7d493 x1 g [.inr (some 1000)] M ∧ ∀ (r3 : Int32) (M2 : mM), xpost_J0_coder_7d493 x1 [.inr (some 1000)] M r3 M2 → (P (some (.inl ((nI 4) >>> (r3 &&& 31)))) M2)) :
    mRun (xS sSH g) (xf_J0_length_8abf5 g) P (0, [some (.inr (some 1000))], [], M) := mRun.vc (xm_J0_length_8abf5 g) [] 7 h

theorem v_lnx_1 (g : mG) (M : mM) (P : mP) 
    (h : ∃ x1 : Nat × List Int32, xpre_J0_coder_7d493 x1 g [.inr (some 1001)] M ∧ ∀ (r3 : Int32) (M2 : mM), xpost_J0_coder_7d493 x1 [.inr (some 1001)] M r3 M2 → (P (some (.inl ((nI 3) >>> (r3 &&& 31)))) M2)) :
    mRun (xS sSH g) (xf_J0_length_8abf5 g) P (0, [some (.inr (some 1001))], [], M) := mRun.vc (xm_J0_length_8abf5 g) [] 7 h

theorem v_lnx_2 (g : mG) (M : mM) (P : mP) 
    (h : ∃ x1 : Nat × List Int32, xpre_J0_coder_7d493 x1 g [.inr (some 1002)] M ∧ ∀ (r3 : Int32) (M2 : mM), xpost_J0_coder_7d493 x1 [.inr (some 1002)] M r3 M2 → (P (some (.inl ((nI 4) >>> (r3 &&& 31)))) M2)) :
    mRun (xS sSH g) (xf_J0_length_8abf5 g) P (0, [some (.inr (some 1002))], [], M) := mRun.vc (xm_J0_length_8abf5 g) [] 7 h

theorem v_lnx_3 (g : mG) (M : mM) (P : mP) 
    (h : ∃ x1 : Nat × List Int32, xpre_J0_coder_7d493 x1 g [.inr (some 1003)] M ∧ ∀ (r3 : Int32) (M2 : mM), xpost_J0_coder_7d493 x1 [.inr (some 1003)] M r3 M2 → (P (some (.inl ((nI 6) >>> (r3 &&& 31)))) M2)) :
    mRun (xS sSH g) (xf_J0_length_8abf5 g) P (0, [some (.inr (some 1003))], [], M) := mRun.vc (xm_J0_length_8abf5 g) [] 7 h

theorem v_lnx_4 (g : mG) (M : mM) (P : mP) 
    (h : ∃ x1 : Nat × List Int32, xpre_J0_coder_7d493 x1 g [.inr (some 1004)] M ∧ ∀ (r3 : Int32) (M2 : mM), xpost_J0_coder_7d493 x1 [.inr (some 1004)] M r3 M2 → (P (some (.inl ((nI 8) >>> (r3 &&& 31)))) M2)) :
    mRun (xS sSH g) (xf_J0_length_8abf5 g) P (0, [some (.inr (some 1004))], [], M) := mRun.vc (xm_J0_length_8abf5 g) [] 7 h

theorem v_lnx_5 (g : mG) (M : mM) (P : mP) 
    (h : ∃ x1 : Nat × List Int32, xpre_J0_coder_7d493 x1 g [.inr (some 1005)] M ∧ ∀ (r3 : Int32) (M2 : mM), xpost_J0_coder_7d493 x1 [.inr (some 1005)] M r3 M2 → (P (some (.inl ((nI 4) >>> (r3 &&& 31)))) M2)) :
    mRun (xS sSH g) (xf_J0_length_8abf5 g) P (0, [some (.inr (some 1005))], [], M) := mRun.vc (xm_J0_length_8abf5 g) [] 7 h

theorem v_lnx_6 (g : mG) (M : mM) (P : mP) 
    (h : ∃ x1 : Nat × List Int32, xpre_J0_coder_7d493 x1 g [.inr (some 1006)] M ∧ ∀ (r3 : Int32) (M2 : mM), xpost_J0_coder_7d493 x1 [.inr (some 1006)] M r3 M2 → (P (some (.inl ((nI 5) >>> (r3 &&& 31)))) M2)) :
    mRun (xS sSH g) (xf_J0_length_8abf5 g) P (0, [some (.inr (some 1006))], [], M) := mRun.vc (xm_J0_length_8abf5 g) [] 7 h

theorem v_lnx_7 (g : mG) (M : mM) (P : mP) 
    (h : ∃ x1 : Nat × List Int32, xpre_J0_coder_7d493 x1 g [.inr (some 1007)] M ∧ ∀ (r3 : Int32) (M2 : mM), xpost_J0_coder_7d493 x1 [.inr (some 1007)] M r3 M2 → (P (some (.inl ((nI 4) >>> (r3 &&& 31)))) M2)) :
    mRun (xS sSH g) (xf_J0_length_8abf5 g) P (0, [some (.inr (some 1007))], [], M) := mRun.vc (xm_J0_length_8abf5 g) [] 7 h

theorem v_lnx_8 (g : mG) (M : mM) (P : mP) 
    (h : ∃ x1 : Nat × List Int32, xpre_J0_coder_7d493 x1 g [.inr (some 1008)] M ∧ ∀ (r3 : Int32) (M2 : mM), xpost_J0_coder_7d493 x1 [.inr (some 1008)] M r3 M2 → (P (some (.inl ((nI 4) >>> (r3 &&& 31)))) M2)) :
    mRun (xS sSH g) (xf_J0_length_8abf5 g) P (0, [some (.inr (some 1008))], [], M) := mRun.vc (xm_J0_length_8abf5 g) [] 7 h

theorem v_lnx_9 (g : mG) (M : mM) (P : mP) 
    (h : ∃ x1 : Nat × List Int32, xpre_J0_coder_7d493 x1 g [.inr (some 1009)] M ∧ ∀ (r3 : Int32) (M2 : mM), xpost_J0_coder_7d493 x1 [.inr (some 1009)] M r3 M2 → (P (some (.inl ((nI 0) >>> (r3 &&& 31)))) M2)) :
    mRun (xS sSH g) (xf_J0_length_8abf5 g) P (0, [some (.inr (some 1009))], [], M) := mRun.vc (xm_J0_length_8abf5 g) [] 7 h

theorem v_lnx_10 (g : mG) (M : mM) (P : mP) 
    (h : ∃ x1 : Nat × List Int32, xpre_J0_coder_7d493 x1 g [.inr (some 1010)] M ∧ ∀ (r3 : Int32) (M2 : mM), xpost_J0_coder_7d493 x1 [.inr (some 1010)] M r3 M2 → (P (some (.inl ((nI 1) >>> (r3 &&& 31)))) M2)) :
    mRun (xS sSH g) (xf_J0_length_8abf5 g) P (0, [some (.inr (some 1010))], [], M) := mRun.vc (xm_J0_length_8abf5 g) [] 7 h

theorem v_lnx_11 (g : mG) (M : mM) (P : mP) 
    (h : ∃ x1 : Nat × List Int32, xpre_J0_coder_7d493 x1 g [.inr (some 1011)] M ∧ ∀ (r3 : Int32) (M2 : mM), xpost_J0_coder_7d493 x1 [.inr (some 1011)] M r3 M2 → (P (some (.inl ((nI 1) >>> (r3 &&& 31)))) M2)) :
    mRun (xS sSH g) (xf_J0_length_8abf5 g) P (0, [some (.inr (some 1011))], [], M) := mRun.vc (xm_J0_length_8abf5 g) [] 7 h

theorem v_lnx_12 (g : mG) (M : mM) (P : mP) 
    (h : ∃ x1 : Nat × List Int32, xpre_J0_coder_7d493 x1 g [.inr (some 1012)] M ∧ ∀ (r3 : Int32) (M2 : mM), xpost_J0_coder_7d493 x1 [.inr (some 1012)] M r3 M2 → (P (some (.inl ((nI 1) >>> (r3 &&& 31)))) M2)) :
    mRun (xS sSH g) (xf_J0_length_8abf5 g) P (0, [some (.inr (some 1012))], [], M) := mRun.vc (xm_J0_length_8abf5 g) [] 7 h

theorem v_lnx_13 (g : mG) (M : mM) (P : mP) 
    (h : ∃ x1 : Nat × List Int32, xpre_J0_coder_7d493 x1 g [.inr (some 1013)] M ∧ ∀ (r3 : Int32) (M2 : mM), xpost_J0_coder_7d493 x1 [.inr (some 1013)] M r3 M2 → (P (some (.inl ((nI 1) >>> (r3 &&& 31)))) M2)) :
    mRun (xS sSH g) (xf_J0_length_8abf5 g) P (0, [some (.inr (some 1013))], [], M) := mRun.vc (xm_J0_length_8abf5 g) [] 7 h

theorem v_lnx_14 (g : mG) (M : mM) (P : mP) 
    (h : ∃ x1 : Nat × List Int32, xpre_J0_coder_7d493 x1 g [.inr (some 1014)] M ∧ ∀ (r3 : Int32) (M2 : mM), xpost_J0_coder_7d493 x1 [.inr (some 1014)] M r3 M2 → (P (some (.inl ((nI 1) >>> (r3 &&& 31)))) M2)) :
    mRun (xS sSH g) (xf_J0_length_8abf5 g) P (0, [some (.inr (some 1014))], [], M) := mRun.vc (xm_J0_length_8abf5 g) [] 7 h

theorem v_lnx_15 (g : mG) (M : mM) (P : mP) 
    (h : ∃ x1 : Nat × List Int32, xpre_J0_coder_7d493 x1 g [.inr (some 1015)] M ∧ ∀ (r3 : Int32) (M2 : mM), xpost_J0_coder_7d493 x1 [.inr (some 1015)] M r3 M2 → (P (some (.inl ((nI 5) >>> (r3 &&& 31)))) M2)) :
    mRun (xS sSH g) (xf_J0_length_8abf5 g) P (0, [some (.inr (some 1015))], [], M) := mRun.vc (xm_J0_length_8abf5 g) [] 7 h

theorem v_lnx_16 (g : mG) (M : mM) (P : mP) 
    (h : ∃ x1 : Nat × List Int32, xpre_J0_coder_7d493 x1 g [.inr (some 1016)] M ∧ ∀ (r3 : Int32) (M2 : mM), xpost_J0_coder_7d493 x1 [.inr (some 1016)] M r3 M2 → (P (some (.inl ((nI 1) >>> (r3 &&& 31)))) M2)) :
    mRun (xS sSH g) (xf_J0_length_8abf5 g) P (0, [some (.inr (some 1016))], [], M) := mRun.vc (xm_J0_length_8abf5 g) [] 7 h

theorem v_lnx_t (ga : Nat → Nat) (gD : va_G) (gc : Nat → ClassId) (go : Option Nat) (L : Nat) (ge : List mH) (M : mM) (P : mP) 
    (h : ∃ x1 : Nat × List Int32, xpre_J0_coder_7d493 x1 (ga, gD, gc, go, (5, 0, [some 3, none, none, none]) :: (3, L, []) :: ge) [.inr (some 2)] M ∧ ∀ (r3 : Int32) (M2 : mM), xpost_J0_coder_7d493 x1 [.inr (some 2)] M r3 M2 → (P (some (.inl ((nI L) >>> (r3 &&& 31)))) M2)) :
    mRun (xS sSH (ga, gD, gc, go, (5, 0, [some 3, none, none, none]) :: (3, L, []) :: ge)) (xf_J0_length_8abf5 (ga, gD, gc, go, (5, 0, [some 3, none, none, none]) :: (3, L, []) :: ge)) P (0, [some (.inr (some 2))], [], M) := mRun.vc (xm_J0_length_8abf5 (ga, gD, gc, go, (5, 0, [some 3, none, none, none]) :: (3, L, []) :: ge)) [] 7 h

set_option maxHeartbeats 2000000 in
theorem xrun_J0_length_8abf5 : xRunOf sSH 1 xt_J0_length_8abf5 xf_J0_length_8abf5 := fun g as M P hT => by
  obtain ⟨⟨a, u⟩, ⟨rfl, hT⟩, hP⟩ := hT
  refine ⟨Nat.le_of_ble_eq_true rfl, ?_⟩
  dsimp only at hT
  rcases hT with ⟨w, hw, rfl, rfl⟩ | ⟨rfl, c1, c0, c2, ge, hg⟩
  · rcases (by omega : w = 0 ∨ w = 1 ∨ w = 2 ∨ w = 3 ∨ w = 4 ∨ w = 5 ∨ w = 6 ∨ w = 7 ∨ w = 8 ∨ w = 9 ∨ w = 10 ∨ w = 11 ∨ w = 12 ∨ w = 13 ∨ w = 14 ∨ w = 15 ∨ w = 16) with rfl | rfl | rfl | rfl | rfl | rfl | rfl | rfl | rfl | rfl | rfl | rfl | rfl | rfl | rfl | rfl | rfl
    · exact v_lnx_0 g M P ⟨(1000 + 0, wB 0), ⟨rfl, Or.inl ⟨0, by decide, rfl, rfl⟩⟩, fun r M2 h => by obtain ⟨e1, e2⟩ : r = 0 ∧ M2 = M := h; rw [e1, e2]; exact hP _ _ ⟨by decide, rfl⟩⟩
    · exact v_lnx_1 g M P ⟨(1000 + 1, wB 1), ⟨rfl, Or.inl ⟨1, by decide, rfl, rfl⟩⟩, fun r M2 h => by obtain ⟨e1, e2⟩ : r = 0 ∧ M2 = M := h; rw [e1, e2]; exact hP _ _ ⟨by decide, rfl⟩⟩
    · exact v_lnx_2 g M P ⟨(1000 + 2, wB 2), ⟨rfl, Or.inl ⟨2, by decide, rfl, rfl⟩⟩, fun r M2 h => by obtain ⟨e1, e2⟩ : r = 0 ∧ M2 = M := h; rw [e1, e2]; exact hP _ _ ⟨by decide, rfl⟩⟩
    · exact v_lnx_3 g M P ⟨(1000 + 3, wB 3), ⟨rfl, Or.inl ⟨3, by decide, rfl, rfl⟩⟩, fun r M2 h => by obtain ⟨e1, e2⟩ : r = 0 ∧ M2 = M := h; rw [e1, e2]; exact hP _ _ ⟨by decide, rfl⟩⟩
    · exact v_lnx_4 g M P ⟨(1000 + 4, wB 4), ⟨rfl, Or.inl ⟨4, by decide, rfl, rfl⟩⟩, fun r M2 h => by obtain ⟨e1, e2⟩ : r = 0 ∧ M2 = M := h; rw [e1, e2]; exact hP _ _ ⟨by decide, rfl⟩⟩
    · exact v_lnx_5 g M P ⟨(1000 + 5, wB 5), ⟨rfl, Or.inl ⟨5, by decide, rfl, rfl⟩⟩, fun r M2 h => by obtain ⟨e1, e2⟩ : r = 0 ∧ M2 = M := h; rw [e1, e2]; exact hP _ _ ⟨by decide, rfl⟩⟩
    · exact v_lnx_6 g M P ⟨(1000 + 6, wB 6), ⟨rfl, Or.inl ⟨6, by decide, rfl, rfl⟩⟩, fun r M2 h => by obtain ⟨e1, e2⟩ : r = 0 ∧ M2 = M := h; rw [e1, e2]; exact hP _ _ ⟨by decide, rfl⟩⟩
    · exact v_lnx_7 g M P ⟨(1000 + 7, wB 7), ⟨rfl, Or.inl ⟨7, by decide, rfl, rfl⟩⟩, fun r M2 h => by obtain ⟨e1, e2⟩ : r = 0 ∧ M2 = M := h; rw [e1, e2]; exact hP _ _ ⟨by decide, rfl⟩⟩
    · exact v_lnx_8 g M P ⟨(1000 + 8, wB 8), ⟨rfl, Or.inl ⟨8, by decide, rfl, rfl⟩⟩, fun r M2 h => by obtain ⟨e1, e2⟩ : r = 0 ∧ M2 = M := h; rw [e1, e2]; exact hP _ _ ⟨by decide, rfl⟩⟩
    · exact v_lnx_9 g M P ⟨(1000 + 9, wB 9), ⟨rfl, Or.inl ⟨9, by decide, rfl, rfl⟩⟩, fun r M2 h => by obtain ⟨e1, e2⟩ : r = 0 ∧ M2 = M := h; rw [e1, e2]; exact hP _ _ ⟨by decide, rfl⟩⟩
    · exact v_lnx_10 g M P ⟨(1000 + 10, wB 10), ⟨rfl, Or.inl ⟨10, by decide, rfl, rfl⟩⟩, fun r M2 h => by obtain ⟨e1, e2⟩ : r = 0 ∧ M2 = M := h; rw [e1, e2]; exact hP _ _ ⟨by decide, rfl⟩⟩
    · exact v_lnx_11 g M P ⟨(1000 + 11, wB 11), ⟨rfl, Or.inl ⟨11, by decide, rfl, rfl⟩⟩, fun r M2 h => by obtain ⟨e1, e2⟩ : r = 0 ∧ M2 = M := h; rw [e1, e2]; exact hP _ _ ⟨by decide, rfl⟩⟩
    · exact v_lnx_12 g M P ⟨(1000 + 12, wB 12), ⟨rfl, Or.inl ⟨12, by decide, rfl, rfl⟩⟩, fun r M2 h => by obtain ⟨e1, e2⟩ : r = 0 ∧ M2 = M := h; rw [e1, e2]; exact hP _ _ ⟨by decide, rfl⟩⟩
    · exact v_lnx_13 g M P ⟨(1000 + 13, wB 13), ⟨rfl, Or.inl ⟨13, by decide, rfl, rfl⟩⟩, fun r M2 h => by obtain ⟨e1, e2⟩ : r = 0 ∧ M2 = M := h; rw [e1, e2]; exact hP _ _ ⟨by decide, rfl⟩⟩
    · exact v_lnx_14 g M P ⟨(1000 + 14, wB 14), ⟨rfl, Or.inl ⟨14, by decide, rfl, rfl⟩⟩, fun r M2 h => by obtain ⟨e1, e2⟩ : r = 0 ∧ M2 = M := h; rw [e1, e2]; exact hP _ _ ⟨by decide, rfl⟩⟩
    · exact v_lnx_15 g M P ⟨(1000 + 15, wB 15), ⟨rfl, Or.inl ⟨15, by decide, rfl, rfl⟩⟩, fun r M2 h => by obtain ⟨e1, e2⟩ : r = 0 ∧ M2 = M := h; rw [e1, e2]; exact hP _ _ ⟨by decide, rfl⟩⟩
    · exact v_lnx_16 g M P ⟨(1000 + 16, wB 16), ⟨rfl, Or.inl ⟨16, by decide, rfl, rfl⟩⟩, fun r M2 h => by obtain ⟨e1, e2⟩ : r = 0 ∧ M2 = M := h; rw [e1, e2]; exact hP _ _ ⟨by decide, rfl⟩⟩
  · obtain ⟨ga, gD, gc, go, gx⟩ := g
    have hg : gx = _ := hg
    subst hg
    exact v_lnx_t ga gD gc go u.length ge M P ⟨(2, u), ⟨rfl, Or.inr ⟨rfl, c1, c0, c2, ge, rfl⟩⟩, fun r M2 h => by obtain ⟨e1, e2⟩ : r = 0 ∧ M2 = M := h; rw [e1, e2]; exact hP _ _ ⟨sh0 (by omega), rfl⟩⟩
theorem xok_J0_length_8abf5 : xOK sSH yJ0_length_8abf5 cJ0_length_8abf5 1 (some .int) 2 xt_J0_length_8abf5 := xOK.of xf_J0_length_8abf5 (by decide) (fun _ => rfl) (fun g => mCodeOK xkk_J0_length_8abf5) (fun g => mFldL fk_RJ0 rfl) (fun g idx v h => by cases h) (fun g idx v h => by cases h) (xCalL (l := xl_J0_length_8abf5) (List.forall_mem_cons.mpr ⟨xSite.V (idx := 335) xok_J0_coder_7d493 (fun _ h => h) (by decide) (by decide) xrv_J0_coder_7d493 wc_J0_coder_7d493 wk_RJ0_335 wi_J0_coder_7d493 wl_J0_coder_7d493 wn_RJ0 wd_J0_coder_7d493, fun _ h => absurd h List.not_mem_nil⟩) (fun _ => rfl)) xrun_J0_length_8abf5

theorem xrv_J0_length_8abf5 : xHasR sSH yJ0_length_8abf5 0 xt_J0_length_8abf5 := by
  intro g as M P hT hl
  obtain ⟨q, hq, -⟩ := hT
  first | exact sIsT hq.1 hq.2 | exact sIsT hq.1 hq.2.1

def xpre_J0_getBytes_840e7 (q : Nat × List Int32 × Nat) (g : mG) (as : List mV) (M : mM) : Prop := as = [.inr (some q.1), .inr (some 1), .inl (nI q.2.2), .inl 0] ∧ sTx g M q.1 q.2.1 ∧ sLo q.2.1 ∧ q.2.2 + q.2.1.length ≤ 16
def xpost_J0_getBytes_840e7 (q : Nat × List Int32 × Nat) (as : List mV) (M : mM) (M' : mM) : Prop := (∀ d, d ≠ 1 → M' d = M d) ∧ ∀ j, M' 1 j = if q.2.2 ≤ j ∧ j < q.2.2 + q.2.1.length then q.2.1.getD (j - q.2.2) 0 else M 1 j
abbrev xt_J0_getBytes_840e7 : mG → mT := mGv xpre_J0_getBytes_840e7 xpost_J0_getBytes_840e7
theorem xmo_J0_getBytes_840e7 : mMn xt_J0_getBytes_840e7 := mGv_mono

theorem gb_all {S : List mH} {M : mM} {P : mP} {a k : Nat} {u : List Int32} {y z : Int32} (f : Nat → Int32) (hy : y = nI k) (hz : z = nI u.length) (hk : k + u.length ≤ 16) (hl : sLo u) (hb : ∃ rb, S[1]? = some (3, 16, rb))
    (hs : (∃ l, mRoA a = some l ∧ l.length = u.length ∧ f = fun k => l.getD k 0) ∨ (∃ ra, S[a]? = some (3, u.length, ra) ∧ f = M a)) (hf : ∀ j, j < u.length → f j = u.getD j 0)
    (hP : ∀ M' : mM, ((∀ d, d ≠ 1 → M' d = M d) ∧ ∀ j, M' 1 j = if k ≤ j ∧ j < k + u.length then u.getD (j - k) 0 else M 1 j) → P none M') :
    ∃ (L n : Nat) (f : Nat → Int32), ((∃ l, mRoA a = some l ∧ l.length = L ∧ f = fun k => l.getD k 0) ∨ (∃ ra, S[a]? = some (3, L, ra) ∧ f = M a)) ∧ (∃ rb, S[1]? = some (3, n, rb)) ∧ ¬ nI 0 < 0 ∧ ¬ y < 0 ∧ ¬ z < 0 ∧ (nI 0).toNatClampNeg + z.toNatClampNeg ≤ L ∧ y.toNatClampNeg + z.toNatClampNeg ≤ n ∧ (∀ k, k < z.toNatClampNeg → fits .byte (.int (f ((nI 0).toNatClampNeg + k))) = true) ∧ (let M5 : mM := mUp M 1 (va_cpy f (M 1) (nI 0).toNatClampNeg y.toNatClampNeg z.toNatClampNeg); P none M5) := by
  rw [hy, hz, nI_clamp (n := 0) (by decide), nI_clamp (n := k) (by omega), nI_clamp (n := u.length) (by omega)]
  refine ⟨u.length, 16, f, hs, hb, by decide, nI_pos (by omega), nI_pos (by omega), by omega, hk, fun j hj => ?_, hP _ ⟨fun d hd => mUp_ne hd, fun j => ?_⟩⟩
  · obtain ⟨x, hx, e⟩ := hl j hj
    rw [Nat.zero_add, hf j hj, e]
    exact ch7f x hx
  · rw [mUp_at]
    by_cases h : k ≤ j ∧ j < k + u.length
    · rw [if_pos h, pk_cpy_in h.1 h.2, Nat.zero_add]
      exact hf _ (by omega)
    · rw [if_neg h]
      exact pk_cpy_out (by omega)

def xk_J0_getBytes_840e7 : List (Nat × mI) := [(0, .aload_n 0, 1, 0, 0, []),
  (1, .invokevirtual 335, 3, 0, 0, []),
  (4, .iload_n 3, 1, 3, 0, []),
  (5, .if_icmp .ne 23, 3, 28, 0, []),
  (8, .aload_n 0, 1, 0, 0, []),
  (9, .getfield 9, 3, 0, 0, []),
  (12, .iconst 0, 1, 0, nI 0, []),
  (13, .aload_n 1, 1, 1, 0, []),
  (14, .iload_n 2, 1, 2, 0, []),
  (15, .iload_n 3, 1, 3, 0, []),
  (16, .ishl, 1, 0, 0, []),
  (17, .aload_n 0, 1, 0, 0, []),
  (18, .getfield 9, 3, 0, 0, []),
  (21, .arraylength, 1, 0, 0, []),
  (22, .invokestatic 212, 3, 0, 0, []),
  (25, .goto 18, 3, 43, 0, []),
  (28, .aload_n 0, 1, 0, 0, []),
  (29, .getfield 9, 3, 0, 0, []),
  (32, .iconst 0, 1, 0, nI 0, []),
  (33, .aload_n 1, 1, 1, 0, []),
  (34, .iload_n 2, 1, 2, 0, []),
  (35, .aload_n 0, 1, 0, 0, []),
  (36, .getfield 9, 3, 0, 0, []),
  (39, .arraylength, 1, 0, 0, []),
  (40, .invokestatic 106, 3, 0, 0, []),
  (43, .return_, 1, 0, 0, [])]
theorem xkk_J0_getBytes_840e7 : (xk_J0_getBytes_840e7.all fun e => mChk cJ0_getBytes_840e7 e.1 e.2) = true := by decide +kernel
def xl_J0_getBytes_840e7 : List (Nat × Nat × (mG → mT)) := [(3 * 335, 0 + 1, xt_J0_coder_7d493), (3 * 212 + 1, 5, (tCopyB sSH))]
def xf_J0_getBytes_840e7 (g : mG) : mF := (mLk xk_J0_getBytes_840e7, mLk fl_RJ0, mLk (xl_J0_getBytes_840e7.map fun e => (e.1, e.2.1, e.2.2 g)), mLk ([] : List (Nat × mV)), mLk ([] : List (Nat × mV)), none)
theorem xm_J0_getBytes_840e7 (g : mG) : mMono (xf_J0_getBytes_840e7 g) := mMonoL (g := g) (l := xl_J0_getBytes_840e7) (List.forall_mem_cons.mpr ⟨xmo_J0_coder_7d493, List.forall_mem_cons.mpr ⟨tCopyB_mono, fun _ h => absurd h List.not_mem_nil⟩⟩) rfl

theorem v_gbx_0 (g : mG) (M : mM) (P : mP) (k : Nat)
    (h : ∃ x1 : Nat × List Int32, xpre_J0_coder_7d493 x1 g [.inr (some 1000)] M ∧ ∀ (r3 : Int32) (M2 : mM), xpost_J0_coder_7d493 x1 [.inr (some 1000)] M r3 M2 → ((¬ r3 = 0 → False) ∧ (¬ (¬ r3 = 0) → ∃ (L6 n7 : Nat) (f8 : Nat → Int32), ((∃ l, mRoA 1100 = some l ∧ l.length = L6 ∧ f8 = fun k => l.getD k 0) ∨ (∃ ra, (xS sSH g)[1100]? = some (3, L6, ra) ∧ f8 = (M2 1100))) ∧ (∃ rb, (xS sSH g)[1]? = some (3, n7, rb)) ∧ ¬ (nI 0) < 0 ∧ ¬ ((nI k) <<< (0 &&& 31)) < 0 ∧ ¬ (nI 4) < 0 ∧ (nI 0).toNatClampNeg + (nI 4).toNatClampNeg ≤ L6 ∧ ((nI k) <<< (0 &&& 31)).toNatClampNeg + (nI 4).toNatClampNeg ≤ n7 ∧ (∀ k, k < (nI 4).toNatClampNeg → fits .byte (.int (f8 ((nI 0).toNatClampNeg + k))) = true) ∧ (let M5 : mM := mUp M2 1 (va_cpy f8 (M2 1) (nI 0).toNatClampNeg ((nI k) <<< (0 &&& 31)).toNatClampNeg (nI 4).toNatClampNeg); P none M5)))) :
    mRun (xS sSH g) (xf_J0_getBytes_840e7 g) P (0, [some (.inr (some 1000)), some (.inr (some 1)), some (.inl (nI k)), some (.inl 0)], [], M) := mRun.vc (xm_J0_getBytes_840e7 g) [] 17 h

theorem v_gbx_1 (g : mG) (M : mM) (P : mP) (k : Nat)
    (h : ∃ x1 : Nat × List Int32, xpre_J0_coder_7d493 x1 g [.inr (some 1001)] M ∧ ∀ (r3 : Int32) (M2 : mM), xpost_J0_coder_7d493 x1 [.inr (some 1001)] M r3 M2 → ((¬ r3 = 0 → False) ∧ (¬ (¬ r3 = 0) → ∃ (L6 n7 : Nat) (f8 : Nat → Int32), ((∃ l, mRoA 1101 = some l ∧ l.length = L6 ∧ f8 = fun k => l.getD k 0) ∨ (∃ ra, (xS sSH g)[1101]? = some (3, L6, ra) ∧ f8 = (M2 1101))) ∧ (∃ rb, (xS sSH g)[1]? = some (3, n7, rb)) ∧ ¬ (nI 0) < 0 ∧ ¬ ((nI k) <<< (0 &&& 31)) < 0 ∧ ¬ (nI 3) < 0 ∧ (nI 0).toNatClampNeg + (nI 3).toNatClampNeg ≤ L6 ∧ ((nI k) <<< (0 &&& 31)).toNatClampNeg + (nI 3).toNatClampNeg ≤ n7 ∧ (∀ k, k < (nI 3).toNatClampNeg → fits .byte (.int (f8 ((nI 0).toNatClampNeg + k))) = true) ∧ (let M5 : mM := mUp M2 1 (va_cpy f8 (M2 1) (nI 0).toNatClampNeg ((nI k) <<< (0 &&& 31)).toNatClampNeg (nI 3).toNatClampNeg); P none M5)))) :
    mRun (xS sSH g) (xf_J0_getBytes_840e7 g) P (0, [some (.inr (some 1001)), some (.inr (some 1)), some (.inl (nI k)), some (.inl 0)], [], M) := mRun.vc (xm_J0_getBytes_840e7 g) [] 17 h

theorem v_gbx_2 (g : mG) (M : mM) (P : mP) (k : Nat)
    (h : ∃ x1 : Nat × List Int32, xpre_J0_coder_7d493 x1 g [.inr (some 1002)] M ∧ ∀ (r3 : Int32) (M2 : mM), xpost_J0_coder_7d493 x1 [.inr (some 1002)] M r3 M2 → ((¬ r3 = 0 → False) ∧ (¬ (¬ r3 = 0) → ∃ (L6 n7 : Nat) (f8 : Nat → Int32), ((∃ l, mRoA 1102 = some l ∧ l.length = L6 ∧ f8 = fun k => l.getD k 0) ∨ (∃ ra, (xS sSH g)[1102]? = some (3, L6, ra) ∧ f8 = (M2 1102))) ∧ (∃ rb, (xS sSH g)[1]? = some (3, n7, rb)) ∧ ¬ (nI 0) < 0 ∧ ¬ ((nI k) <<< (0 &&& 31)) < 0 ∧ ¬ (nI 4) < 0 ∧ (nI 0).toNatClampNeg + (nI 4).toNatClampNeg ≤ L6 ∧ ((nI k) <<< (0 &&& 31)).toNatClampNeg + (nI 4).toNatClampNeg ≤ n7 ∧ (∀ k, k < (nI 4).toNatClampNeg → fits .byte (.int (f8 ((nI 0).toNatClampNeg + k))) = true) ∧ (let M5 : mM := mUp M2 1 (va_cpy f8 (M2 1) (nI 0).toNatClampNeg ((nI k) <<< (0 &&& 31)).toNatClampNeg (nI 4).toNatClampNeg); P none M5)))) :
    mRun (xS sSH g) (xf_J0_getBytes_840e7 g) P (0, [some (.inr (some 1002)), some (.inr (some 1)), some (.inl (nI k)), some (.inl 0)], [], M) := mRun.vc (xm_J0_getBytes_840e7 g) [] 17 h

theorem v_gbx_3 (g : mG) (M : mM) (P : mP) (k : Nat)
    (h : ∃ x1 : Nat × List Int32, xpre_J0_coder_7d493 x1 g [.inr (some 1003)] M ∧ ∀ (r3 : Int32) (M2 : mM), xpost_J0_coder_7d493 x1 [.inr (some 1003)] M r3 M2 → ((¬ r3 = 0 → False) ∧ (¬ (¬ r3 = 0) → ∃ (L6 n7 : Nat) (f8 : Nat → Int32), ((∃ l, mRoA 1103 = some l ∧ l.length = L6 ∧ f8 = fun k => l.getD k 0) ∨ (∃ ra, (xS sSH g)[1103]? = some (3, L6, ra) ∧ f8 = (M2 1103))) ∧ (∃ rb, (xS sSH g)[1]? = some (3, n7, rb)) ∧ ¬ (nI 0) < 0 ∧ ¬ ((nI k) <<< (0 &&& 31)) < 0 ∧ ¬ (nI 6) < 0 ∧ (nI 0).toNatClampNeg + (nI 6).toNatClampNeg ≤ L6 ∧ ((nI k) <<< (0 &&& 31)).toNatClampNeg + (nI 6).toNatClampNeg ≤ n7 ∧ (∀ k, k < (nI 6).toNatClampNeg → fits .byte (.int (f8 ((nI 0).toNatClampNeg + k))) = true) ∧ (let M5 : mM := mUp M2 1 (va_cpy f8 (M2 1) (nI 0).toNatClampNeg ((nI k) <<< (0 &&& 31)).toNatClampNeg (nI 6).toNatClampNeg); P none M5)))) :
    mRun (xS sSH g) (xf_J0_getBytes_840e7 g) P (0, [some (.inr (some 1003)), some (.inr (some 1)), some (.inl (nI k)), some (.inl 0)], [], M) := mRun.vc (xm_J0_getBytes_840e7 g) [] 17 h

theorem v_gbx_4 (g : mG) (M : mM) (P : mP) (k : Nat)
    (h : ∃ x1 : Nat × List Int32, xpre_J0_coder_7d493 x1 g [.inr (some 1004)] M ∧ ∀ (r3 : Int32) (M2 : mM), xpost_J0_coder_7d493 x1 [.inr (some 1004)] M r3 M2 → ((¬ r3 = 0 → False) ∧ (¬ (¬ r3 = 0) → ∃ (L6 n7 : Nat) (f8 : Nat → Int32), ((∃ l, mRoA 1104 = some l ∧ l.length = L6 ∧ f8 = fun k => l.getD k 0) ∨ (∃ ra, (xS sSH g)[1104]? = some (3, L6, ra) ∧ f8 = (M2 1104))) ∧ (∃ rb, (xS sSH g)[1]? = some (3, n7, rb)) ∧ ¬ (nI 0) < 0 ∧ ¬ ((nI k) <<< (0 &&& 31)) < 0 ∧ ¬ (nI 8) < 0 ∧ (nI 0).toNatClampNeg + (nI 8).toNatClampNeg ≤ L6 ∧ ((nI k) <<< (0 &&& 31)).toNatClampNeg + (nI 8).toNatClampNeg ≤ n7 ∧ (∀ k, k < (nI 8).toNatClampNeg → fits .byte (.int (f8 ((nI 0).toNatClampNeg + k))) = true) ∧ (let M5 : mM := mUp M2 1 (va_cpy f8 (M2 1) (nI 0).toNatClampNeg ((nI k) <<< (0 &&& 31)).toNatClampNeg (nI 8).toNatClampNeg); P none M5)))) :
    mRun (xS sSH g) (xf_J0_getBytes_840e7 g) P (0, [some (.inr (some 1004)), some (.inr (some 1)), some (.inl (nI k)), some (.inl 0)], [], M) := mRun.vc (xm_J0_getBytes_840e7 g) [] 17 h

theorem v_gbx_5 (g : mG) (M : mM) (P : mP) (k : Nat)
    (h : ∃ x1 : Nat × List Int32, xpre_J0_coder_7d493 x1 g [.inr (some 1005)] M ∧ ∀ (r3 : Int32) (M2 : mM), xpost_J0_coder_7d493 x1 [.inr (some 1005)] M r3 M2 → ((¬ r3 = 0 → False) ∧ (¬ (¬ r3 = 0) → ∃ (L6 n7 : Nat) (f8 : Nat → Int32), ((∃ l, mRoA 1105 = some l ∧ l.length = L6 ∧ f8 = fun k => l.getD k 0) ∨ (∃ ra, (xS sSH g)[1105]? = some (3, L6, ra) ∧ f8 = (M2 1105))) ∧ (∃ rb, (xS sSH g)[1]? = some (3, n7, rb)) ∧ ¬ (nI 0) < 0 ∧ ¬ ((nI k) <<< (0 &&& 31)) < 0 ∧ ¬ (nI 4) < 0 ∧ (nI 0).toNatClampNeg + (nI 4).toNatClampNeg ≤ L6 ∧ ((nI k) <<< (0 &&& 31)).toNatClampNeg + (nI 4).toNatClampNeg ≤ n7 ∧ (∀ k, k < (nI 4).toNatClampNeg → fits .byte (.int (f8 ((nI 0).toNatClampNeg + k))) = true) ∧ (let M5 : mM := mUp M2 1 (va_cpy f8 (M2 1) (nI 0).toNatClampNeg ((nI k) <<< (0 &&& 31)).toNatClampNeg (nI 4).toNatClampNeg); P none M5)))) :
    mRun (xS sSH g) (xf_J0_getBytes_840e7 g) P (0, [some (.inr (some 1005)), some (.inr (some 1)), some (.inl (nI k)), some (.inl 0)], [], M) := mRun.vc (xm_J0_getBytes_840e7 g) [] 17 h

theorem v_gbx_6 (g : mG) (M : mM) (P : mP) (k : Nat)
    (h : ∃ x1 : Nat × List Int32, xpre_J0_coder_7d493 x1 g [.inr (some 1006)] M ∧ ∀ (r3 : Int32) (M2 : mM), xpost_J0_coder_7d493 x1 [.inr (some 1006)] M r3 M2 → ((¬ r3 = 0 → False) ∧ (¬ (¬ r3 = 0) → ∃ (L6 n7 : Nat) (f8 : Nat → Int32), ((∃ l, mRoA 1106 = some l ∧ l.length = L6 ∧ f8 = fun k => l.getD k 0) ∨ (∃ ra, (xS sSH g)[1106]? = some (3, L6, ra) ∧ f8 = (M2 1106))) ∧ (∃ rb, (xS sSH g)[1]? = some (3, n7, rb)) ∧ ¬ (nI 0) < 0 ∧ ¬ ((nI k) <<< (0 &&& 31)) < 0 ∧ ¬ (nI 5) < 0 ∧ (nI 0).toNatClampNeg + (nI 5).toNatClampNeg ≤ L6 ∧ ((nI k) <<< (0 &&& 31)).toNatClampNeg + (nI 5).toNatClampNeg ≤ n7 ∧ (∀ k, k < (nI 5).toNatClampNeg → fits .byte (.int (f8 ((nI 0).toNatClampNeg + k))) = true) ∧ (let M5 : mM := mUp M2 1 (va_cpy f8 (M2 1) (nI 0).toNatClampNeg ((nI k) <<< (0 &&& 31)).toNatClampNeg (nI 5).toNatClampNeg); P none M5)))) :
    mRun (xS sSH g) (xf_J0_getBytes_840e7 g) P (0, [some (.inr (some 1006)), some (.inr (some 1)), some (.inl (nI k)), some (.inl 0)], [], M) := mRun.vc (xm_J0_getBytes_840e7 g) [] 17 h

theorem v_gbx_7 (g : mG) (M : mM) (P : mP) (k : Nat)
    (h : ∃ x1 : Nat × List Int32, xpre_J0_coder_7d493 x1 g [.inr (some 1007)] M ∧ ∀ (r3 : Int32) (M2 : mM), xpost_J0_coder_7d493 x1 [.inr (some 1007)] M r3 M2 → ((¬ r3 = 0 → False) ∧ (¬ (¬ r3 = 0) → ∃ (L6 n7 : Nat) (f8 : Nat → Int32), ((∃ l, mRoA 1107 = some l ∧ l.length = L6 ∧ f8 = fun k => l.getD k 0) ∨ (∃ ra, (xS sSH g)[1107]? = some (3, L6, ra) ∧ f8 = (M2 1107))) ∧ (∃ rb, (xS sSH g)[1]? = some (3, n7, rb)) ∧ ¬ (nI 0) < 0 ∧ ¬ ((nI k) <<< (0 &&& 31)) < 0 ∧ ¬ (nI 4) < 0 ∧ (nI 0).toNatClampNeg + (nI 4).toNatClampNeg ≤ L6 ∧ ((nI k) <<< (0 &&& 31)).toNatClampNeg + (nI 4).toNatClampNeg ≤ n7 ∧ (∀ k, k < (nI 4).toNatClampNeg → fits .byte (.int (f8 ((nI 0).toNatClampNeg + k))) = true) ∧ (let M5 : mM := mUp M2 1 (va_cpy f8 (M2 1) (nI 0).toNatClampNeg ((nI k) <<< (0 &&& 31)).toNatClampNeg (nI 4).toNatClampNeg); P none M5)))) :
    mRun (xS sSH g) (xf_J0_getBytes_840e7 g) P (0, [some (.inr (some 1007)), some (.inr (some 1)), some (.inl (nI k)), some (.inl 0)], [], M) := mRun.vc (xm_J0_getBytes_840e7 g) [] 17 h

theorem v_gbx_8 (g : mG) (M : mM) (P : mP) (k : Nat)
    (h : ∃ x1 : Nat × List Int32, xpre_J0_coder_7d493 x1 g [.inr (some 1008)] M ∧ ∀ (r3 : Int32) (M2 : mM), xpost_J0_coder_7d493 x1 [.inr (some 1008)] M r3 M2 → ((¬ r3 = 0 → False) ∧ (¬ (¬ r3 = 0) → ∃ (L6 n7 : Nat) (f8 : Nat → Int32), ((∃ l, mRoA 1108 = some l ∧ l.length = L6 ∧ f8 = fun k => l.getD k 0) ∨ (∃ ra, (xS sSH g)[1108]? = some (3, L6, ra) ∧ f8 = (M2 1108))) ∧ (∃ rb, (xS sSH g)[1]? = some (3, n7, rb)) ∧ ¬ (nI 0) < 0 ∧ ¬ ((nI k) <<< (0 &&& 31)) < 0 ∧ ¬ (nI 4) < 0 ∧ (nI 0).toNatClampNeg + (nI 4).toNatClampNeg ≤ L6 ∧ ((nI k) <<< (0 &&& 31)).toNatClampNeg + (nI 4).toNatClampNeg ≤ n7 ∧ (∀ k, k < (nI 4).toNatClampNeg → fits .byte (.int (f8 ((nI 0).toNatClampNeg + k))) = true) ∧ (let M5 : mM := mUp M2 1 (va_cpy f8 (M2 1) (nI 0).toNatClampNeg ((nI k) <<< (0 &&& 31)).toNatClampNeg (nI 4).toNatClampNeg); P none M5)))) :
    mRun (xS sSH g) (xf_J0_getBytes_840e7 g) P (0, [some (.inr (some 1008)), some (.inr (some 1)), some (.inl (nI k)), some (.inl 0)], [], M) := mRun.vc (xm_J0_getBytes_840e7 g) [] 17 h

theorem v_gbx_9 (g : mG) (M : mM) (P : mP) (k : Nat)
    (h : ∃ x1 : Nat × List Int32, xpre_J0_coder_7d493 x1 g [.inr (some 1009)] M ∧ ∀ (r3 : Int32) (M2 : mM), xpost_J0_coder_7d493 x1 [.inr (some 1009)] M r3 M2 → ((¬ r3 = 0 → False) ∧ (¬ (¬ r3 = 0) → ∃ (L6 n7 : Nat) (f8 : Nat → Int32), ((∃ l, mRoA 1109 = some l ∧ l.length = L6 ∧ f8 = fun k => l.getD k 0) ∨ (∃ ra, (xS sSH g)[1109]? = some (3, L6, ra) ∧ f8 = (M2 1109))) ∧ (∃ rb, (xS sSH g)[1]? = some (3, n7, rb)) ∧ ¬ (nI 0) < 0 ∧ ¬ ((nI k) <<< (0 &&& 31)) < 0 ∧ ¬ (nI 0) < 0 ∧ (nI 0).toNatClampNeg + (nI 0).toNatClampNeg ≤ L6 ∧ ((nI k) <<< (0 &&& 31)).toNatClampNeg + (nI 0).toNatClampNeg ≤ n7 ∧ (∀ k, k < (nI 0).toNatClampNeg → fits .byte (.int (f8 ((nI 0).toNatClampNeg + k))) = true) ∧ (let M5 : mM := mUp M2 1 (va_cpy f8 (M2 1) (nI 0).toNatClampNeg ((nI k) <<< (0 &&& 31)).toNatClampNeg (nI 0).toNatClampNeg); P none M5)))) :
    mRun (xS sSH g) (xf_J0_getBytes_840e7 g) P (0, [some (.inr (some 1009)), some (.inr (some 1)), some (.inl (nI k)), some (.inl 0)], [], M) := mRun.vc (xm_J0_getBytes_840e7 g) [] 17 h

theorem v_gbx_10 (g : mG) (M : mM) (P : mP) (k : Nat)
    (h : ∃ x1 : Nat × List Int32, xpre_J0_coder_7d493 x1 g [.inr (some 1010)] M ∧ ∀ (r3 : Int32) (M2 : mM), xpost_J0_coder_7d493 x1 [.inr (some 1010)] M r3 M2 → ((¬ r3 = 0 → False) ∧ (¬ (¬ r3 = 0) → ∃ (L6 n7 : Nat) (f8 : Nat → Int32), ((∃ l, mRoA 1110 = some l ∧ l.length = L6 ∧ f8 = fun k => l.getD k 0) ∨ (∃ ra, (xS sSH g)[1110]? = some (3, L6, ra) ∧ f8 = (M2 1110))) ∧ (∃ rb, (xS sSH g)[1]? = some (3, n7, rb)) ∧ ¬ (nI 0) < 0 ∧ ¬ ((nI k) <<< (0 &&& 31)) < 0 ∧ ¬ (nI 1) < 0 ∧ (nI 0).toNatClampNeg + (nI 1).toNatClampNeg ≤ L6 ∧ ((nI k) <<< (0 &&& 31)).toNatClampNeg + (nI 1).toNatClampNeg ≤ n7 ∧ (∀ k, k < (nI 1).toNatClampNeg → fits .byte (.int (f8 ((nI 0).toNatClampNeg + k))) = true) ∧ (let M5 : mM := mUp M2 1 (va_cpy f8 (M2 1) (nI 0).toNatClampNeg ((nI k) <<< (0 &&& 31)).toNatClampNeg (nI 1).toNatClampNeg); P none M5)))) :
    mRun (xS sSH g) (xf_J0_getBytes_840e7 g) P (0, [some (.inr (some 1010)), some (.inr (some 1)), some (.inl (nI k)), some (.inl 0)], [], M) := mRun.vc (xm_J0_getBytes_840e7 g) [] 17 h

theorem v_gbx_11 (g : mG) (M : mM) (P : mP) (k : Nat)
    (h : ∃ x1 : Nat × List Int32, xpre_J0_coder_7d493 x1 g [.inr (some 1011)] M ∧ ∀ (r3 : Int32) (M2 : mM), xpost_J0_coder_7d493 x1 [.inr (some 1011)] M r3 M2 → ((¬ r3 = 0 → False) ∧ (¬ (¬ r3 = 0) → ∃ (L6 n7 : Nat) (f8 : Nat → Int32), ((∃ l, mRoA 1111 = some l ∧ l.length = L6 ∧ f8 = fun k => l.getD k 0) ∨ (∃ ra, (xS sSH g)[1111]? = some (3, L6, ra) ∧ f8 = (M2 1111))) ∧ (∃ rb, (xS sSH g)[1]? = some (3, n7, rb)) ∧ ¬ (nI 0) < 0 ∧ ¬ ((nI k) <<< (0 &&& 31)) < 0 ∧ ¬ (nI 1) < 0 ∧ (nI 0).toNatClampNeg + (nI 1).toNatClampNeg ≤ L6 ∧ ((nI k) <<< (0 &&& 31)).toNatClampNeg + (nI 1).toNatClampNeg ≤ n7 ∧ (∀ k, k < (nI 1).toNatClampNeg → fits .byte (.int (f8 ((nI 0).toNatClampNeg + k))) = true) ∧ (let M5 : mM := mUp M2 1 (va_cpy f8 (M2 1) (nI 0).toNatClampNeg ((nI k) <<< (0 &&& 31)).toNatClampNeg (nI 1).toNatClampNeg); P none M5)))) :
    mRun (xS sSH g) (xf_J0_getBytes_840e7 g) P (0, [some (.inr (some 1011)), some (.inr (some 1)), some (.inl (nI k)), some (.inl 0)], [], M) := mRun.vc (xm_J0_getBytes_840e7 g) [] 17 h

theorem v_gbx_12 (g : mG) (M : mM) (P : mP) (k : Nat)
    (h : ∃ x1 : Nat × List Int32, xpre_J0_coder_7d493 x1 g [.inr (some 1012)] M ∧ ∀ (r3 : Int32) (M2 : mM), xpost_J0_coder_7d493 x1 [.inr (some 1012)] M r3 M2 → ((¬ r3 = 0 → False) ∧ (¬ (¬ r3 = 0) → ∃ (L6 n7 : Nat) (f8 : Nat → Int32), ((∃ l, mRoA 1112 = some l ∧ l.length = L6 ∧ f8 = fun k => l.getD k 0) ∨ (∃ ra, (xS sSH g)[1112]? = some (3, L6, ra) ∧ f8 = (M2 1112))) ∧ (∃ rb, (xS sSH g)[1]? = some (3, n7, rb)) ∧ ¬ (nI 0) < 0 ∧ ¬ ((nI k) <<< (0 &&& 31)) < 0 ∧ ¬ (nI 1) < 0 ∧ (nI 0).toNatClampNeg + (nI 1).toNatClampNeg ≤ L6 ∧ ((nI k) <<< (0 &&& 31)).toNatClampNeg + (nI 1).toNatClampNeg ≤ n7 ∧ (∀ k, k < (nI 1).toNatClampNeg → fits .byte (.int (f8 ((nI 0).toNatClampNeg + k))) = true) ∧ (let M5 : mM := mUp M2 1 (va_cpy f8 (M2 1) (nI 0).toNatClampNeg ((nI k) <<< (0 &&& 31)).toNatClampNeg (nI 1).toNatClampNeg); P none M5)))) :
    mRun (xS sSH g) (xf_J0_getBytes_840e7 g) P (0, [some (.inr (some 1012)), some (.inr (some 1)), some (.inl (nI k)), some (.inl 0)], [], M) := mRun.vc (xm_J0_getBytes_840e7 g) [] 17 h

theorem v_gbx_13 (g : mG) (M : mM) (P : mP) (k : Nat)
    (h : ∃ x1 : Nat × List Int32, xpre_J0_coder_7d493 x1 g [.inr (some 1013)] M ∧ ∀ (r3 : Int32) (M2 : mM), xpost_J0_coder_7d493 x1 [.inr (some 1013)] M r3 M2 → ((¬ r3 = 0 → False) ∧ (¬ (¬ r3 = 0) → ∃ (L6 n7 : Nat) (f8 : Nat → Int32), ((∃ l, mRoA 1113 = some l ∧ l.length = L6 ∧ f8 = fun k => l.getD k 0) ∨ (∃ ra, (xS sSH g)[1113]? = some (3, L6, ra) ∧ f8 = (M2 1113))) ∧ (∃ rb, (xS sSH g)[1]? = some (3, n7, rb)) ∧ ¬ (nI 0) < 0 ∧ ¬ ((nI k) <<< (0 &&& 31)) < 0 ∧ ¬ (nI 1) < 0 ∧ (nI 0).toNatClampNeg + (nI 1).toNatClampNeg ≤ L6 ∧ ((nI k) <<< (0 &&& 31)).toNatClampNeg + (nI 1).toNatClampNeg ≤ n7 ∧ (∀ k, k < (nI 1).toNatClampNeg → fits .byte (.int (f8 ((nI 0).toNatClampNeg + k))) = true) ∧ (let M5 : mM := mUp M2 1 (va_cpy f8 (M2 1) (nI 0).toNatClampNeg ((nI k) <<< (0 &&& 31)).toNatClampNeg (nI 1).toNatClampNeg); P none M5)))) :
    mRun (xS sSH g) (xf_J0_getBytes_840e7 g) P (0, [some (.inr (some 1013)), some (.inr (some 1)), some (.inl (nI k)), some (.inl 0)], [], M) := mRun.vc (xm_J0_getBytes_840e7 g) [] 17 h

theorem v_gbx_14 (g : mG) (M : mM) (P : mP) (k : Nat)
    (h : ∃ x1 : Nat × List Int32, xpre_J0_coder_7d493 x1 g [.inr (some 1014)] M ∧ ∀ (r3 : Int32) (M2 : mM), xpost_J0_coder_7d493 x1 [.inr (some 1014)] M r3 M2 → ((¬ r3 = 0 → False) ∧ (¬ (¬ r3 = 0) → ∃ (L6 n7 : Nat) (f8 : Nat → Int32), ((∃ l, mRoA 1114 = some l ∧ l.length = L6 ∧ f8 = fun k => l.getD k 0) ∨ (∃ ra, (xS sSH g)[1114]? = some (3, L6, ra) ∧ f8 = (M2 1114))) ∧ (∃ rb, (xS sSH g)[1]? = some (3, n7, rb)) ∧ ¬ (nI 0) < 0 ∧ ¬ ((nI k) <<< (0 &&& 31)) < 0 ∧ ¬ (nI 1) < 0 ∧ (nI 0).toNatClampNeg + (nI 1).toNatClampNeg ≤ L6 ∧ ((nI k) <<< (0 &&& 31)).toNatClampNeg + (nI 1).toNatClampNeg ≤ n7 ∧ (∀ k, k < (nI 1).toNatClampNeg → fits .byte (.int (f8 ((nI 0).toNatClampNeg + k))) = true) ∧ (let M5 : mM := mUp M2 1 (va_cpy f8 (M2 1) (nI 0).toNatClampNeg ((nI k) <<< (0 &&& 31)).toNatClampNeg (nI 1).toNatClampNeg); P none M5)))) :
    mRun (xS sSH g) (xf_J0_getBytes_840e7 g) P (0, [some (.inr (some 1014)), some (.inr (some 1)), some (.inl (nI k)), some (.inl 0)], [], M) := mRun.vc (xm_J0_getBytes_840e7 g) [] 17 h

theorem v_gbx_15 (g : mG) (M : mM) (P : mP) (k : Nat)
    (h : ∃ x1 : Nat × List Int32, xpre_J0_coder_7d493 x1 g [.inr (some 1015)] M ∧ ∀ (r3 : Int32) (M2 : mM), xpost_J0_coder_7d493 x1 [.inr (some 1015)] M r3 M2 → ((¬ r3 = 0 → False) ∧ (¬ (¬ r3 = 0) → ∃ (L6 n7 : Nat) (f8 : Nat → Int32), ((∃ l, mRoA 1115 = some l ∧ l.length = L6 ∧ f8 = fun k => l.getD k 0) ∨ (∃ ra, (xS sSH g)[1115]? = some (3, L6, ra) ∧ f8 = (M2 1115))) ∧ (∃ rb, (xS sSH g)[1]? = some (3, n7, rb)) ∧ ¬ (nI 0) < 0 ∧ ¬ ((nI k) <<< (0 &&& 31)) < 0 ∧ ¬ (nI 5) < 0 ∧ (nI 0).toNatClampNeg + (nI 5).toNatClampNeg ≤ L6 ∧ ((nI k) <<< (0 &&& 31)).toNatClampNeg + (nI 5).toNatClampNeg ≤ n7 ∧ (∀ k, k < (nI 5).toNatClampNeg → fits .byte (.int (f8 ((nI 0).toNatClampNeg + k))) = true) ∧ (let M5 : mM := mUp M2 1 (va_cpy f8 (M2 1) (nI 0).toNatClampNeg ((nI k) <<< (0 &&& 31)).toNatClampNeg (nI 5).toNatClampNeg); P none M5)))) :
    mRun (xS sSH g) (xf_J0_getBytes_840e7 g) P (0, [some (.inr (some 1015)), some (.inr (some 1)), some (.inl (nI k)), some (.inl 0)], [], M) := mRun.vc (xm_J0_getBytes_840e7 g) [] 17 h

theorem v_gbx_16 (g : mG) (M : mM) (P : mP) (k : Nat)
    (h : ∃ x1 : Nat × List Int32, xpre_J0_coder_7d493 x1 g [.inr (some 1016)] M ∧ ∀ (r3 : Int32) (M2 : mM), xpost_J0_coder_7d493 x1 [.inr (some 1016)] M r3 M2 → ((¬ r3 = 0 → False) ∧ (¬ (¬ r3 = 0) → ∃ (L6 n7 : Nat) (f8 : Nat → Int32), ((∃ l, mRoA 1116 = some l ∧ l.length = L6 ∧ f8 = fun k => l.getD k 0) ∨ (∃ ra, (xS sSH g)[1116]? = some (3, L6, ra) ∧ f8 = (M2 1116))) ∧ (∃ rb, (xS sSH g)[1]? = some (3, n7, rb)) ∧ ¬ (nI 0) < 0 ∧ ¬ ((nI k) <<< (0 &&& 31)) < 0 ∧ ¬ (nI 1) < 0 ∧ (nI 0).toNatClampNeg + (nI 1).toNatClampNeg ≤ L6 ∧ ((nI k) <<< (0 &&& 31)).toNatClampNeg + (nI 1).toNatClampNeg ≤ n7 ∧ (∀ k, k < (nI 1).toNatClampNeg → fits .byte (.int (f8 ((nI 0).toNatClampNeg + k))) = true) ∧ (let M5 : mM := mUp M2 1 (va_cpy f8 (M2 1) (nI 0).toNatClampNeg ((nI k) <<< (0 &&& 31)).toNatClampNeg (nI 1).toNatClampNeg); P none M5)))) :
    mRun (xS sSH g) (xf_J0_getBytes_840e7 g) P (0, [some (.inr (some 1016)), some (.inr (some 1)), some (.inl (nI k)), some (.inl 0)], [], M) := mRun.vc (xm_J0_getBytes_840e7 g) [] 17 h

theorem v_gbx_t (ga : Nat → Nat) (gD : va_G) (gc : Nat → ClassId) (go : Option Nat) (L : Nat) (ge : List mH) (M : mM) (P : mP) (k : Nat)
    (h : ∃ x1 : Nat × List Int32, xpre_J0_coder_7d493 x1 (ga, gD, gc, go, (5, 0, [some 3, none, none, none]) :: (3, L, []) :: ge) [.inr (some 2)] M ∧ ∀ (r3 : Int32) (M2 : mM), xpost_J0_coder_7d493 x1 [.inr (some 2)] M r3 M2 → ((¬ r3 = 0 → False) ∧ (¬ (¬ r3 = 0) → ∃ (L6 n7 : Nat) (f8 : Nat → Int32), ((∃ l, mRoA 3 = some l ∧ l.length = L6 ∧ f8 = fun k => l.getD k 0) ∨ (∃ ra, (xS sSH (ga, gD, gc, go, (5, 0, [some 3, none, none, none]) :: (3, L, []) :: ge))[3]? = some (3, L6, ra) ∧ f8 = (M2 3))) ∧ (∃ rb, (xS sSH (ga, gD, gc, go, (5, 0, [some 3, none, none, none]) :: (3, L, []) :: ge))[1]? = some (3, n7, rb)) ∧ ¬ (nI 0) < 0 ∧ ¬ ((nI k) <<< (0 &&& 31)) < 0 ∧ ¬ (nI L) < 0 ∧ (nI 0).toNatClampNeg + (nI L).toNatClampNeg ≤ L6 ∧ ((nI k) <<< (0 &&& 31)).toNatClampNeg + (nI L).toNatClampNeg ≤ n7 ∧ (∀ k, k < (nI L).toNatClampNeg → fits .byte (.int (f8 ((nI 0).toNatClampNeg + k))) = true) ∧ (let M5 : mM := mUp M2 1 (va_cpy f8 (M2 1) (nI 0).toNatClampNeg ((nI k) <<< (0 &&& 31)).toNatClampNeg (nI L).toNatClampNeg); P none M5)))) :
    mRun (xS sSH (ga, gD, gc, go, (5, 0, [some 3, none, none, none]) :: (3, L, []) :: ge)) (xf_J0_getBytes_840e7 (ga, gD, gc, go, (5, 0, [some 3, none, none, none]) :: (3, L, []) :: ge)) P (0, [some (.inr (some 2)), some (.inr (some 1)), some (.inl (nI k)), some (.inl 0)], [], M) := mRun.vc (xm_J0_getBytes_840e7 (ga, gD, gc, go, (5, 0, [some 3, none, none, none]) :: (3, L, []) :: ge)) [] 17 h

set_option maxHeartbeats 2000000 in
theorem xrun_J0_getBytes_840e7 : xRunOf sSH 4 xt_J0_getBytes_840e7 xf_J0_getBytes_840e7 := fun g as M P hT => by
  obtain ⟨⟨a, u, k⟩, ⟨rfl, hT, hl, hk⟩, hP⟩ := hT
  refine ⟨Nat.le_of_ble_eq_true rfl, ?_⟩
  dsimp only at hT hl hk
  rcases hT with ⟨w, hw, rfl, rfl⟩ | ⟨rfl, c1, c0, c2, ge, hg⟩
  · rcases (by omega : w = 0 ∨ w = 1 ∨ w = 2 ∨ w = 3 ∨ w = 4 ∨ w = 5 ∨ w = 6 ∨ w = 7 ∨ w = 8 ∨ w = 9 ∨ w = 10 ∨ w = 11 ∨ w = 12 ∨ w = 13 ∨ w = 14 ∨ w = 15 ∨ w = 16) with rfl | rfl | rfl | rfl | rfl | rfl | rfl | rfl | rfl | rfl | rfl | rfl | rfl | rfl | rfl | rfl | rfl
    · exact v_gbx_0 g M P k ⟨(1000 + 0, wB 0), ⟨rfl, Or.inl ⟨0, by decide, rfl, rfl⟩⟩, fun r M2 h => by obtain ⟨e1, e2⟩ : r = 0 ∧ M2 = M := h; rw [e1, e2]; exact ⟨fun w => absurd rfl w, fun _ => gb_all (fun j => (wB 0).getD j 0) (sl0 (by omega)) rfl hk hl ⟨_, rfl⟩ (Or.inl ⟨wB 0, rfl, rfl, rfl⟩) (fun _ _ => rfl) hP⟩⟩
    · exact v_gbx_1 g M P k ⟨(1000 + 1, wB 1), ⟨rfl, Or.inl ⟨1, by decide, rfl, rfl⟩⟩, fun r M2 h => by obtain ⟨e1, e2⟩ : r = 0 ∧ M2 = M := h; rw [e1, e2]; exact ⟨fun w => absurd rfl w, fun _ => gb_all (fun j => (wB 1).getD j 0) (sl0 (by omega)) rfl hk hl ⟨_, rfl⟩ (Or.inl ⟨wB 1, rfl, rfl, rfl⟩) (fun _ _ => rfl) hP⟩⟩
    · exact v_gbx_2 g M P k ⟨(1000 + 2, wB 2), ⟨rfl, Or.inl ⟨2, by decide, rfl, rfl⟩⟩, fun r M2 h => by obtain ⟨e1, e2⟩ : r = 0 ∧ M2 = M := h; rw [e1, e2]; exact ⟨fun w => absurd rfl w, fun _ => gb_all (fun j => (wB 2).getD j 0) (sl0 (by omega)) rfl hk hl ⟨_, rfl⟩ (Or.inl ⟨wB 2, rfl, rfl, rfl⟩) (fun _ _ => rfl) hP⟩⟩
    · exact v_gbx_3 g M P k ⟨(1000 + 3, wB 3), ⟨rfl, Or.inl ⟨3, by decide, rfl, rfl⟩⟩, fun r M2 h => by obtain ⟨e1, e2⟩ : r = 0 ∧ M2 = M := h; rw [e1, e2]; exact ⟨fun w => absurd rfl w, fun _ => gb_all (fun j => (wB 3).getD j 0) (sl0 (by omega)) rfl hk hl ⟨_, rfl⟩ (Or.inl ⟨wB 3, rfl, rfl, rfl⟩) (fun _ _ => rfl) hP⟩⟩
    · exact v_gbx_4 g M P k ⟨(1000 + 4, wB 4), ⟨rfl, Or.inl ⟨4, by decide, rfl, rfl⟩⟩, fun r M2 h => by obtain ⟨e1, e2⟩ : r = 0 ∧ M2 = M := h; rw [e1, e2]; exact ⟨fun w => absurd rfl w, fun _ => gb_all (fun j => (wB 4).getD j 0) (sl0 (by omega)) rfl hk hl ⟨_, rfl⟩ (Or.inl ⟨wB 4, rfl, rfl, rfl⟩) (fun _ _ => rfl) hP⟩⟩
    · exact v_gbx_5 g M P k ⟨(1000 + 5, wB 5), ⟨rfl, Or.inl ⟨5, by decide, rfl, rfl⟩⟩, fun r M2 h => by obtain ⟨e1, e2⟩ : r = 0 ∧ M2 = M := h; rw [e1, e2]; exact ⟨fun w => absurd rfl w, fun _ => gb_all (fun j => (wB 5).getD j 0) (sl0 (by omega)) rfl hk hl ⟨_, rfl⟩ (Or.inl ⟨wB 5, rfl, rfl, rfl⟩) (fun _ _ => rfl) hP⟩⟩
    · exact v_gbx_6 g M P k ⟨(1000 + 6, wB 6), ⟨rfl, Or.inl ⟨6, by decide, rfl, rfl⟩⟩, fun r M2 h => by obtain ⟨e1, e2⟩ : r = 0 ∧ M2 = M := h; rw [e1, e2]; exact ⟨fun w => absurd rfl w, fun _ => gb_all (fun j => (wB 6).getD j 0) (sl0 (by omega)) rfl hk hl ⟨_, rfl⟩ (Or.inl ⟨wB 6, rfl, rfl, rfl⟩) (fun _ _ => rfl) hP⟩⟩
    · exact v_gbx_7 g M P k ⟨(1000 + 7, wB 7), ⟨rfl, Or.inl ⟨7, by decide, rfl, rfl⟩⟩, fun r M2 h => by obtain ⟨e1, e2⟩ : r = 0 ∧ M2 = M := h; rw [e1, e2]; exact ⟨fun w => absurd rfl w, fun _ => gb_all (fun j => (wB 7).getD j 0) (sl0 (by omega)) rfl hk hl ⟨_, rfl⟩ (Or.inl ⟨wB 7, rfl, rfl, rfl⟩) (fun _ _ => rfl) hP⟩⟩
    · exact v_gbx_8 g M P k ⟨(1000 + 8, wB 8), ⟨rfl, Or.inl ⟨8, by decide, rfl, rfl⟩⟩, fun r M2 h => by obtain ⟨e1, e2⟩ : r = 0 ∧ M2 = M := h; rw [e1, e2]; exact ⟨fun w => absurd rfl w, fun _ => gb_all (fun j => (wB 8).getD j 0) (sl0 (by omega)) rfl hk hl ⟨_, rfl⟩ (Or.inl ⟨wB 8, rfl, rfl, rfl⟩) (fun _ _ => rfl) hP⟩⟩
    · exact v_gbx_9 g M P k ⟨(1000 + 9, wB 9), ⟨rfl, Or.inl ⟨9, by decide, rfl, rfl⟩⟩, fun r M2 h => by obtain ⟨e1, e2⟩ : r = 0 ∧ M2 = M := h; rw [e1, e2]; exact ⟨fun w => absurd rfl w, fun _ => gb_all (fun j => (wB 9).getD j 0) (sl0 (by omega)) rfl hk hl ⟨_, rfl⟩ (Or.inl ⟨wB 9, rfl, rfl, rfl⟩) (fun _ _ => rfl) hP⟩⟩
    · exact v_gbx_10 g M P k ⟨(1000 + 10, wB 10), ⟨rfl, Or.inl ⟨10, by decide, rfl, rfl⟩⟩, fun r M2 h => by obtain ⟨e1, e2⟩ : r = 0 ∧ M2 = M := h; rw [e1, e2]; exact ⟨fun w => absurd rfl w, fun _ => gb_all (fun j => (wB 10).getD j 0) (sl0 (by omega)) rfl hk hl ⟨_, rfl⟩ (Or.inl ⟨wB 10, rfl, rfl, rfl⟩) (fun _ _ => rfl) hP⟩⟩
    · exact v_gbx_11 g M P k ⟨(1000 + 11, wB 11), ⟨rfl, Or.inl ⟨11, by decide, rfl, rfl⟩⟩, fun r M2 h => by obtain ⟨e1, e2⟩ : r = 0 ∧ M2 = M := h; rw [e1, e2]; exact ⟨fun w => absurd rfl w, fun _ => gb_all (fun j => (wB 11).getD j 0) (sl0 (by omega)) rfl hk hl ⟨_, rfl⟩ (Or.inl ⟨wB 11, rfl, rfl, rfl⟩) (fun _ _ => rfl) hP⟩⟩
    · exact v_gbx_12 g M P k ⟨(1000 + 12, wB 12), ⟨rfl, Or.inl ⟨12, by decide, rfl, rfl⟩⟩, fun r M2 h => by obtain ⟨e1, e2⟩ : r = 0 ∧ M2 = M := h; rw [e1, e2]; exact ⟨fun w => absurd rfl w, fun _ => gb_all (fun j => (wB 12).getD j 0) (sl0 (by omega)) rfl hk hl ⟨_, rfl⟩ (Or.inl ⟨wB 12, rfl, rfl, rfl⟩) (fun _ _ => rfl) hP⟩⟩
    · exact v_gbx_13 g M P k ⟨(1000 + 13, wB 13), ⟨rfl, Or.inl ⟨13, by decide, rfl, rfl⟩⟩, fun r M2 h => by obtain ⟨e1, e2⟩ : r = 0 ∧ M2 = M := h; rw [e1, e2]; exact ⟨fun w => absurd rfl w, fun _ => gb_all (fun j => (wB 13).getD j 0) (sl0 (by omega)) rfl hk hl ⟨_, rfl⟩ (Or.inl ⟨wB 13, rfl, rfl, rfl⟩) (fun _ _ => rfl) hP⟩⟩
    · exact v_gbx_14 g M P k ⟨(1000 + 14, wB 14), ⟨rfl, Or.inl ⟨14, by decide, rfl, rfl⟩⟩, fun r M2 h => by obtain ⟨e1, e2⟩ : r = 0 ∧ M2 = M := h; rw [e1, e2]; exact ⟨fun w => absurd rfl w, fun _ => gb_all (fun j => (wB 14).getD j 0) (sl0 (by omega)) rfl hk hl ⟨_, rfl⟩ (Or.inl ⟨wB 14, rfl, rfl, rfl⟩) (fun _ _ => rfl) hP⟩⟩
    · exact v_gbx_15 g M P k ⟨(1000 + 15, wB 15), ⟨rfl, Or.inl ⟨15, by decide, rfl, rfl⟩⟩, fun r M2 h => by obtain ⟨e1, e2⟩ : r = 0 ∧ M2 = M := h; rw [e1, e2]; exact ⟨fun w => absurd rfl w, fun _ => gb_all (fun j => (wB 15).getD j 0) (sl0 (by omega)) rfl hk hl ⟨_, rfl⟩ (Or.inl ⟨wB 15, rfl, rfl, rfl⟩) (fun _ _ => rfl) hP⟩⟩
    · exact v_gbx_16 g M P k ⟨(1000 + 16, wB 16), ⟨rfl, Or.inl ⟨16, by decide, rfl, rfl⟩⟩, fun r M2 h => by obtain ⟨e1, e2⟩ : r = 0 ∧ M2 = M := h; rw [e1, e2]; exact ⟨fun w => absurd rfl w, fun _ => gb_all (fun j => (wB 16).getD j 0) (sl0 (by omega)) rfl hk hl ⟨_, rfl⟩ (Or.inl ⟨wB 16, rfl, rfl, rfl⟩) (fun _ _ => rfl) hP⟩⟩
  · obtain ⟨ga, gD, gc, go, gx⟩ := g
    have hg : gx = _ := hg
    subst hg
    exact v_gbx_t ga gD gc go u.length ge M P k ⟨(2, u), ⟨rfl, Or.inr ⟨rfl, c1, c0, c2, ge, rfl⟩⟩, fun r M2 h => by obtain ⟨e1, e2⟩ : r = 0 ∧ M2 = M := h; rw [e1, e2]; exact ⟨fun w => absurd rfl w, fun _ => gb_all (M 3) (sl0 (by omega)) rfl hk hl ⟨_, rfl⟩ (Or.inr ⟨_, rfl, rfl⟩) c0 hP⟩⟩
theorem xok_J0_getBytes_840e7 : xOK sSH yJ0_getBytes_840e7 cJ0_getBytes_840e7 4 (none) 2 xt_J0_getBytes_840e7 := xOK.of xf_J0_getBytes_840e7 (by decide) (fun _ => rfl) (fun g => mCodeOK xkk_J0_getBytes_840e7) (fun g => mFldL fk_RJ0 rfl) (fun g idx v h => by cases h) (fun g idx v h => by cases h) (xCalL (l := xl_J0_getBytes_840e7) (List.forall_mem_cons.mpr ⟨xSite.V (idx := 335) xok_J0_coder_7d493 (fun _ h => h) (by decide) (by decide) xrv_J0_coder_7d493 wc_J0_coder_7d493 wk_RJ0_335 wi_J0_coder_7d493 wl_J0_coder_7d493 wn_RJ0 wd_J0_coder_7d493, List.forall_mem_cons.mpr ⟨xSite.copyB (idx := 212) (by decide) (mIn 799 (by decide +kernel) rfl) wnat_copy wst_copy wn_RJ10, fun _ h => absurd h List.not_mem_nil⟩⟩) (fun _ => rfl)) xrun_J0_getBytes_840e7

theorem xrv_J0_getBytes_840e7 : xHasR sSH yJ0_getBytes_840e7 3 xt_J0_getBytes_840e7 := by
  intro g as M P hT hl
  obtain ⟨q, hq, -⟩ := hT
  first | exact sIsT hq.1 hq.2 | exact sIsT hq.1 hq.2.1

def xpre_J5_inflateIfNeededFor_a7421 (q : Nat × List Int32) (g : mG) (as : List mV) (M : mM) : Prop := as = [.inr (some 0), .inr (some q.1)] ∧ sTx g M q.1 q.2 ∧ M 0 1 = 0
def xpost_J5_inflateIfNeededFor_a7421 (q : Nat × List Int32) (as : List mV) (M : mM) (M' : mM) : Prop := M' = M
abbrev xt_J5_inflateIfNeededFor_a7421 : mG → mT := mGv xpre_J5_inflateIfNeededFor_a7421 xpost_J5_inflateIfNeededFor_a7421
theorem xmo_J5_inflateIfNeededFor_a7421 : mMn xt_J5_inflateIfNeededFor_a7421 := mGv_mono

def xk_J5_inflateIfNeededFor_a7421 : List (Nat × mI) := [(0, .getstatic 18, 3, 0, 0, []),
  (3, .ifCond .eq 18, 3, 21, 0, []),
  (6, .aload_n 0, 1, 0, 0, []),
  (7, .getfield 22, 3, 0, 0, []),
  (10, .aload_n 1, 1, 1, 0, []),
  (11, .invokevirtual 40, 3, 0, 0, []),
  (14, .if_icmp .eq 7, 3, 21, 0, []),
  (17, .aload_n 0, 1, 0, 0, []),
  (18, .invokevirtual 195, 3, 0, 0, []),
  (21, .return_, 1, 0, 0, [])]
theorem xkk_J5_inflateIfNeededFor_a7421 : (xk_J5_inflateIfNeededFor_a7421.all fun e => mChk cJ5_inflateIfNeededFor_a7421 e.1 e.2) = true := by decide +kernel
def xl_J5_inflateIfNeededFor_a7421 : List (Nat × Nat × (mG → mT)) := [(3 * 40, 0 + 1, xt_J0_coder_7d493)]
def xf_J5_inflateIfNeededFor_a7421 (g : mG) : mF := (mLk xk_J5_inflateIfNeededFor_a7421, mLk fl_RJ5, mLk (xl_J5_inflateIfNeededFor_a7421.map fun e => (e.1, e.2.1, e.2.2 g)), mLk ([] : List (Nat × mV)), mLk ([(18, .inl 1)] : List (Nat × mV)), none)
theorem xm_J5_inflateIfNeededFor_a7421 (g : mG) : mMono (xf_J5_inflateIfNeededFor_a7421 g) := mMonoL (g := g) (l := xl_J5_inflateIfNeededFor_a7421) (List.forall_mem_cons.mpr ⟨xmo_J0_coder_7d493, fun _ h => absurd h List.not_mem_nil⟩) rfl

theorem xv_J5_inflateIfNeededFor_a7421 (g : mG) (M : mM) (P : mP) (a : Nat)
    (h : ((1 : Int32) = 0 → P none M) ∧ (¬ ((1 : Int32) = 0) → ∃ x2 : Nat × List Int32, xpre_J0_coder_7d493 x2 g [.inr (some a)] M ∧ ∀ (r4 : Int32) (M3 : mM), xpost_J0_coder_7d493 x2 [.inr (some a)] M r4 M3 → (((M 0 1) = r4 → P none M3) ∧ (¬ ((M 0 1) = r4) → False)))) :
    mRun (xS sSH g) (xf_J5_inflateIfNeededFor_a7421 g) P (0, [some (.inr (some 0)), some (.inr (some a))], [], M) := mRun.vc (xm_J5_inflateIfNeededFor_a7421 g) [] 9 h

theorem xrun_J5_inflateIfNeededFor_a7421 : xRunOf sSH 2 xt_J5_inflateIfNeededFor_a7421 xf_J5_inflateIfNeededFor_a7421 := fun g as M P hT => by
  obtain ⟨⟨a, u⟩, ⟨rfl, hT, h1⟩, hP⟩ := hT
  refine ⟨Nat.le_of_ble_eq_true rfl, ?_⟩
  refine xv_J5_inflateIfNeededFor_a7421 g M P a ⟨fun w => absurd w (by decide), fun _ => ⟨(a, u), ⟨rfl, hT⟩, fun r M3 h => ?_⟩⟩
  obtain ⟨e1, e2⟩ : r = 0 ∧ M3 = M := h
  rw [e1, e2]
  exact ⟨fun _ => hP _ rfl, fun w => absurd h1 w⟩
theorem xsk_J5_inflateIfNeededFor_a7421 : mStaT RJ5 xf_J5_inflateIfNeededFor_a7421 := mStaL (l := fun g => ([(18, .inl 1)] : List (Nat × mV))) (fun g => List.forall_mem_cons.mpr ⟨Or.inl ⟨rfl, (show Cond.fieldLink RJ5 18 "java/lang/String" "COMPACT_STRINGS" "Z" ∈ mGW from mIn 287 (by decide +kernel) rfl)⟩, fun _ h => absurd h List.not_mem_nil⟩) (fun _ => rfl)
theorem xok_J5_inflateIfNeededFor_a7421 : xOK sSH yJ5_inflateIfNeededFor_a7421 cJ5_inflateIfNeededFor_a7421 2 (none) 2 xt_J5_inflateIfNeededFor_a7421 := xOK.of xf_J5_inflateIfNeededFor_a7421 (by decide) (fun _ => rfl) (fun g => mCodeOK xkk_J5_inflateIfNeededFor_a7421) (fun g => mFldL fk_RJ5 rfl) (fun g idx v h => by cases h) xsk_J5_inflateIfNeededFor_a7421 (xCalL (l := xl_J5_inflateIfNeededFor_a7421) (List.forall_mem_cons.mpr ⟨xSite.V (idx := 40) xok_J0_coder_7d493 (fun _ h => h) (by decide) (by decide) xrv_J0_coder_7d493 wc_J0_coder_7d493 wk_RJ5_40 wi_J0_coder_7d493 wl_J0_coder_7d493 wn_RJ0 wd_J0_coder_7d493, fun _ h => absurd h List.not_mem_nil⟩) (fun _ => rfl)) xrun_J5_inflateIfNeededFor_a7421

theorem xrc_J5_inflateIfNeededFor_a7421 : xHasC sSH RJ4 1 xt_J5_inflateIfNeededFor_a7421 := by
  intro g as M P hT hl
  obtain ⟨q, hq, -⟩ := hT
  exact sIs0 hq.1

def xpre_J5_putStringAt_47b60 (q : Nat × List Int32 × Nat) (g : mG) (as : List mV) (M : mM) : Prop := as = [.inr (some 0), .inl (nI q.2.2), .inr (some q.1)] ∧ sTx g M q.1 q.2.1 ∧ M 0 1 = 0 ∧ sLo q.2.1 ∧ q.2.2 + q.2.1.length ≤ 16
def xpost_J5_putStringAt_47b60 (q : Nat × List Int32 × Nat) (as : List mV) (M : mM) (M' : mM) : Prop := (∀ d, d ≠ 1 → M' d = M d) ∧ ∀ j, M' 1 j = if q.2.2 ≤ j ∧ j < q.2.2 + q.2.1.length then q.2.1.getD (j - q.2.2) 0 else M 1 j
abbrev xt_J5_putStringAt_47b60 : mG → mT := mGv xpre_J5_putStringAt_47b60 xpost_J5_putStringAt_47b60
theorem xmo_J5_putStringAt_47b60 : mMn xt_J5_putStringAt_47b60 := mGv_mono

def xk_J5_putStringAt_47b60 : List (Nat × mI) := [(0, .aload_n 0, 1, 0, 0, []),
  (1, .aload_n 2, 1, 2, 0, []),
  (2, .invokevirtual 397, 3, 0, 0, []),
  (5, .aload_n 2, 1, 2, 0, []),
  (6, .aload_n 0, 1, 0, 0, []),
  (7, .getfield 15, 3, 0, 0, []),
  (10, .iload_n 1, 1, 1, 0, []),
  (11, .aload_n 0, 1, 0, 0, []),
  (12, .getfield 22, 3, 0, 0, []),
  (15, .invokevirtual 399, 3, 0, 0, []),
  (18, .return_, 1, 0, 0, [])]
theorem xkk_J5_putStringAt_47b60 : (xk_J5_putStringAt_47b60.all fun e => mChk cJ5_putStringAt_47b60 e.1 e.2) = true := by decide +kernel
def xl_J5_putStringAt_47b60 : List (Nat × Nat × (mG → mT)) := [(3 * 397, 1 + 1, xt_J5_inflateIfNeededFor_a7421), (3 * 399, 3 + 1, xt_J0_getBytes_840e7)]
def xf_J5_putStringAt_47b60 (g : mG) : mF := (mLk xk_J5_putStringAt_47b60, mLk fl_RJ5, mLk (xl_J5_putStringAt_47b60.map fun e => (e.1, e.2.1, e.2.2 g)), mLk ([] : List (Nat × mV)), mLk ([] : List (Nat × mV)), none)
theorem xm_J5_putStringAt_47b60 (g : mG) : mMono (xf_J5_putStringAt_47b60 g) := mMonoL (g := g) (l := xl_J5_putStringAt_47b60) (List.forall_mem_cons.mpr ⟨xmo_J5_inflateIfNeededFor_a7421, List.forall_mem_cons.mpr ⟨xmo_J0_getBytes_840e7, fun _ h => absurd h List.not_mem_nil⟩⟩) rfl

theorem xv_J5_putStringAt_47b60 (g : mG) (M : mM) (P : mP) (k a : Nat)
    (h : ∃ x1 : Nat × List Int32, xpre_J5_inflateIfNeededFor_a7421 x1 g [.inr (some 0), .inr (some a)] M ∧ ∀ M2 : mM, xpost_J5_inflateIfNeededFor_a7421 x1 [.inr (some 0), .inr (some a)] M M2 → (∃ x3 : Nat × List Int32 × Nat, xpre_J0_getBytes_840e7 x3 g [.inr (some a), .inr (some 1), .inl (nI k), .inl (M2 0 1)] M2 ∧ ∀ M4 : mM, xpost_J0_getBytes_840e7 x3 [.inr (some a), .inr (some 1), .inl (nI k), .inl (M2 0 1)] M2 M4 → (P none M4))) :
    mRun (xS sSH g) (xf_J5_putStringAt_47b60 g) P (0, [some (.inr (some 0)), some (.inl (nI k)), some (.inr (some a))], [], M) := mRun.vc (xm_J5_putStringAt_47b60 g) [] 11 h

theorem xrun_J5_putStringAt_47b60 : xRunOf sSH 3 xt_J5_putStringAt_47b60 xf_J5_putStringAt_47b60 := fun g as M P hT => by
  obtain ⟨⟨a, u, k⟩, ⟨rfl, hT, h1, hl, hk⟩, hP⟩ := hT
  refine ⟨Nat.le_of_ble_eq_true rfl, ?_⟩
  refine xv_J5_putStringAt_47b60 g M P k a ⟨(a, u), ⟨rfl, hT, h1⟩, fun M2 h => ?_⟩
  rw [show M2 = M from h]
  exact ⟨(a, u, k), ⟨by rw [h1], hT, hl, hk⟩, fun M4 h => hP _ h⟩
theorem xok_J5_putStringAt_47b60 : xOK sSH yJ5_putStringAt_47b60 cJ5_putStringAt_47b60 3 (none) 3 xt_J5_putStringAt_47b60 := xOK.of xf_J5_putStringAt_47b60 (by decide) (fun _ => rfl) (fun g => mCodeOK xkk_J5_putStringAt_47b60) (fun g => mFldL fk_RJ5 rfl) (fun g idx v h => by cases h) (fun g idx v h => by cases h) (xCalL (l := xl_J5_putStringAt_47b60) (List.forall_mem_cons.mpr ⟨xSite.U (idx := 397) (C := RJ4) xok_J5_inflateIfNeededFor_a7421 (fun _ h => h) (by decide) (by decide) xrc_J5_inflateIfNeededFor_a7421 wc_J5_inflateIfNeededFor_a7421 wk_RJ5_397 (show Cond.sameMethod yJ5_inflateIfNeededFor_a7421.cls yJ5_inflateIfNeededFor_a7421.cls yJ5_inflateIfNeededFor_a7421.name yJ5_inflateIfNeededFor_a7421.desc ∈ mGW from mIn 1524 (by decide +kernel) rfl) wi_J5_inflateIfNeededFor_a7421 (xInP 2 rfl) wn_RJ5 wd_J5_inflateIfNeededFor_a7421, List.forall_mem_cons.mpr ⟨xSite.V (idx := 399) xok_J0_getBytes_840e7 (fun _ h => h) (by decide) (by decide) xrv_J0_getBytes_840e7 wc_J0_getBytes_840e7 wk_RJ5_399 wi_J0_getBytes_840e7 wl_J0_getBytes_840e7 wn_RJ0 wd_J0_getBytes_840e7, fun _ h => absurd h List.not_mem_nil⟩⟩) (fun _ => rfl)) xrun_J5_putStringAt_47b60

theorem xrc_J5_putStringAt_47b60 : xHasC sSH RJ4 2 xt_J5_putStringAt_47b60 := by
  intro g as M P hT hl
  obtain ⟨q, hq, -⟩ := hT
  exact sIs0 hq.1

def xpre_J5_append_cf1ce (q : Nat × List Int32 × List Int32) (g : mG) (as : List mV) (M : mM) : Prop := as = [.inr (some 0), .inr (some q.1)] ∧ sTx g M q.1 q.2.1 ∧ SBt M q.2.2 ∧ sLo q.2.1 ∧ q.2.2.length + q.2.1.length ≤ 16
def xpost_J5_append_cf1ce (q : Nat × List Int32 × List Int32) (as : List mV) (M : mM) (M' : mM) : Prop := SBt M' (q.2.2 ++ q.2.1) ∧ ∀ d, 2 ≤ d → M' d = M d
abbrev xt_J5_append_cf1ce : mG → mT := mGa xpre_J5_append_cf1ce xpost_J5_append_cf1ce
theorem xmo_J5_append_cf1ce : mMn xt_J5_append_cf1ce := mGa_mono

theorem sb_put {M M7 : mM} {t u : List Int32} (h : SBt M t) (hk : t.length + u.length ≤ 16) (f1 : ∀ d, d ≠ 1 → M7 d = M d) (f2 : ∀ j, M7 1 j = if t.length ≤ j ∧ j < t.length + u.length then u.getD (j - t.length) 0 else M 1 j) {x : Int32} (hx : x = nI (t.length + u.length)) :
    SBt (mW1 M7 0 3 x) (t ++ u) ∧ ∀ d, 2 ≤ d → mW1 M7 0 3 x d = M d := by
  obtain ⟨b1, b2, b3, b4⟩ := h
  refine ⟨⟨?_, ?_, ?_, fun j hj => ?_⟩, fun d hd => ?_⟩
  · rw [sw_k (by decide), f1 0 (by decide)]
    exact b1
  · rw [sw_a, List.length_append]
    exact hx
  · rw [List.length_append]
    exact hk
  · rw [List.length_append] at hj
    rw [sw_c (by decide), f2 j]
    by_cases e : j < t.length
    · rw [if_neg (by omega), b4 j e, gd_l e]
    · rw [if_pos (by omega), gd_r (by omega)]
  · rw [sw_c (by omega), f1 d (by omega)]

def xk_J5_append_cf1ce : List (Nat × mI) := [(0, .aload_n 1, 1, 1, 0, []),
  (1, .ifnonnull 8, 3, 9, 0, []),
  (4, .aload_n 0, 1, 0, 0, []),
  (5, .invokevirtual 204, 3, 0, 0, []),
  (8, .areturn, 1, 0, 0, []),
  (9, .aload_n 1, 1, 1, 0, []),
  (10, .invokevirtual 32, 3, 0, 0, []),
  (13, .istore_n 2, 1, 2, 0, []),
  (14, .aload_n 0, 1, 0, 0, []),
  (15, .aload_n 0, 1, 0, 0, []),
  (16, .getfield 79, 3, 0, 0, []),
  (19, .iload_n 2, 1, 2, 0, []),
  (20, .iadd, 1, 0, 0, []),
  (21, .invokevirtual 100, 3, 0, 0, []),
  (24, .aload_n 0, 1, 0, 0, []),
  (25, .aload_n 0, 1, 0, 0, []),
  (26, .getfield 79, 3, 0, 0, []),
  (29, .aload_n 1, 1, 1, 0, []),
  (30, .invokevirtual 208, 3, 0, 0, []),
  (33, .aload_n 0, 1, 0, 0, []),
  (34, .dup, 1, 0, 0, []),
  (35, .getfield 79, 3, 0, 0, []),
  (38, .iload_n 2, 1, 2, 0, []),
  (39, .iadd, 1, 0, 0, []),
  (40, .putfield 79, 3, 0, 0, []),
  (43, .aload_n 0, 1, 0, 0, []),
  (44, .areturn, 1, 0, 0, [])]
theorem xkk_J5_append_cf1ce : (xk_J5_append_cf1ce.all fun e => mChk cJ5_append_cf1ce e.1 e.2) = true := by decide +kernel
def xl_J5_append_cf1ce : List (Nat × Nat × (mG → mT)) := [(3 * 32, 0 + 1, xt_J0_length_8abf5), (3 * 100, 1 + 1, xt_J5_ensureCapacityInternal_d00df), (3 * 208, 2 + 1, xt_J5_putStringAt_47b60)]
def xf_J5_append_cf1ce (g : mG) : mF := (mLk xk_J5_append_cf1ce, mLk fl_RJ5, mLk (xl_J5_append_cf1ce.map fun e => (e.1, e.2.1, e.2.2 g)), mLk ([] : List (Nat × mV)), mLk ([] : List (Nat × mV)), some (.object "java/lang/AbstractStringBuilder"))
theorem xm_J5_append_cf1ce (g : mG) : mMono (xf_J5_append_cf1ce g) := mMonoL (g := g) (l := xl_J5_append_cf1ce) (List.forall_mem_cons.mpr ⟨xmo_J0_length_8abf5, List.forall_mem_cons.mpr ⟨xmo_J5_ensureCapacityInternal_d00df, List.forall_mem_cons.mpr ⟨xmo_J5_putStringAt_47b60, fun _ h => absurd h List.not_mem_nil⟩⟩⟩) rfl

theorem xv_J5_append_cf1ce (g : mG) (M : mM) (P : mP) (a : Nat)
    (h : ∃ x1 : Nat × List Int32, xpre_J0_length_8abf5 x1 g [.inr (some a)] M ∧ ∀ (r3 : Int32) (M2 : mM), xpost_J0_length_8abf5 x1 [.inr (some a)] M r3 M2 → (∃ x4 : Nat, xpre_J5_ensureCapacityInternal_d00df x4 g [.inr (some 0), .inl ((M2 0 3) + r3)] M2 ∧ ∀ M5 : mM, xpost_J5_ensureCapacityInternal_d00df x4 [.inr (some 0), .inl ((M2 0 3) + r3)] M2 M5 → (∃ x6 : Nat × List Int32 × Nat, xpre_J5_putStringAt_47b60 x6 g [.inr (some 0), .inl (M5 0 3), .inr (some a)] M5 ∧ ∀ M7 : mM, xpost_J5_putStringAt_47b60 x6 [.inr (some 0), .inl (M5 0 3), .inr (some a)] M5 M7 → (let M8 : mM := mW1 M7 0 3 ((M7 0 3) + r3); P (some (.inr (some 0))) M8)))) :
    mRun (xS sSH g) (xf_J5_append_cf1ce g) P (0, [some (.inr (some 0)), some (.inr (some a)), none], [], M) := mRun.vc (xm_J5_append_cf1ce g) [] 24 h

theorem xrun_J5_append_cf1ce : xRunOf sSH 3 xt_J5_append_cf1ce xf_J5_append_cf1ce := fun g as M P hT => by
  obtain ⟨⟨a, u, t⟩, ⟨rfl, hT, hS, hl, hk⟩, hP⟩ := hT
  refine ⟨Nat.le_of_ble_eq_true rfl, ?_⟩
  dsimp only at hT hS hl hk
  have hS0 := hS
  obtain ⟨b1, b2, b3, b4⟩ := hS
  refine xv_J5_append_cf1ce g M P a ⟨(a, u), ⟨rfl, hT⟩, fun r3 M2 h => ?_⟩
  obtain ⟨e1, e2⟩ : r3 = nI u.length ∧ M2 = M := h
  rw [e1, e2]
  refine ⟨t.length + u.length, ⟨by rw [b2, nI_add], b1, hk⟩, fun M5 h => ?_⟩
  rw [show M5 = M from h]
  refine ⟨(a, u, t.length), ⟨by rw [b2], hT, b1, hl, hk⟩, fun M7 h => ?_⟩
  obtain ⟨f1, f2⟩ : (∀ d, d ≠ 1 → M7 d = M d) ∧ ∀ j, M7 1 j = if t.length ≤ j ∧ j < t.length + u.length then u.getD (j - t.length) 0 else M 1 j := h
  exact hP _ (sb_put hS0 hk f1 f2 (by rw [f1 0 (by decide), b2, nI_add]))
theorem xok_J5_append_cf1ce : xOK sSH yJ5_append_cf1ce cJ5_append_cf1ce 3 (some (.object "java/lang/AbstractStringBuilder")) 4 xt_J5_append_cf1ce := xOK.of xf_J5_append_cf1ce (by decide) (fun _ => rfl) (fun g => mCodeOK xkk_J5_append_cf1ce) (fun g => mFldL fk_RJ5 rfl) (fun g idx v h => by cases h) (fun g idx v h => by cases h) (xCalL (l := xl_J5_append_cf1ce) (List.forall_mem_cons.mpr ⟨xSite.V (idx := 32) xok_J0_length_8abf5 (fun _ h => h) (by decide) (by decide) xrv_J0_length_8abf5 wc_J0_length_8abf5 wk_RJ5_32 wi_J0_length_8abf5 wl_J0_length_8abf5 wn_RJ0 wd_J0_length_8abf5, List.forall_mem_cons.mpr ⟨xSite.U (idx := 100) (C := RJ4) xok_J5_ensureCapacityInternal_d00df (fun _ h => h) (by decide) (by decide) xrc_J5_ensureCapacityInternal_d00df wc_J5_ensureCapacityInternal_d00df wk_RJ5_100 (show Cond.sameMethod yJ5_ensureCapacityInternal_d00df.cls yJ5_ensureCapacityInternal_d00df.cls yJ5_ensureCapacityInternal_d00df.name yJ5_ensureCapacityInternal_d00df.desc ∈ mGW from mIn 1519 (by decide +kernel) rfl) wi_J5_ensureCapacityInternal_d00df (xInP 0 rfl) wn_RJ5 wd_J5_ensureCapacityInternal_d00df, List.forall_mem_cons.mpr ⟨xSite.U (idx := 208) (C := RJ4) xok_J5_putStringAt_47b60 (fun _ h => h) (by decide) (by decide) xrc_J5_putStringAt_47b60 wc_J5_putStringAt_47b60 wk_RJ5_208 (show Cond.sameMethod yJ5_putStringAt_47b60.cls yJ5_putStringAt_47b60.cls yJ5_putStringAt_47b60.name yJ5_putStringAt_47b60.desc ∈ mGW from mIn 1523 (by decide +kernel) rfl) wi_J5_putStringAt_47b60 (xInP 1 rfl) wn_RJ5 wd_J5_putStringAt_47b60, fun _ h => absurd h List.not_mem_nil⟩⟩⟩) (fun _ => rfl)) xrun_J5_append_cf1ce

theorem xrc_J5_append_cf1ce : xHasC sSH RJ4 1 xt_J5_append_cf1ce := by
  intro g as M P hT hl
  obtain ⟨q, hq, -⟩ := hT
  exact sIs0 hq.1

def xpre_J4_append_15ec4 (q : Nat × List Int32 × List Int32) (g : mG) (as : List mV) (M : mM) : Prop := as = [.inr (some 0), .inr (some q.1)] ∧ sTx g M q.1 q.2.1 ∧ SBt M q.2.2 ∧ sLo q.2.1 ∧ q.2.2.length + q.2.1.length ≤ 16
def xpost_J4_append_15ec4 (q : Nat × List Int32 × List Int32) (as : List mV) (M : mM) (M' : mM) : Prop := SBt M' (q.2.2 ++ q.2.1) ∧ ∀ d, 2 ≤ d → M' d = M d
abbrev xt_J4_append_15ec4 : mG → mT := mGa xpre_J4_append_15ec4 xpost_J4_append_15ec4
theorem xmo_J4_append_15ec4 : mMn xt_J4_append_15ec4 := mGa_mono

def xk_J4_append_15ec4 : List (Nat × mI) := [(0, .aload_n 0, 1, 0, 0, []),
  (1, .aload_n 1, 1, 1, 0, []),
  (2, .invokespecial 29, 3, 0, 0, []),
  (5, .pop, 1, 0, 0, []),
  (6, .aload_n 0, 1, 0, 0, []),
  (7, .areturn, 1, 0, 0, [])]
theorem xkk_J4_append_15ec4 : (xk_J4_append_15ec4.all fun e => mChk cJ4_append_15ec4 e.1 e.2) = true := by decide +kernel
def xl_J4_append_15ec4 : List (Nat × Nat × (mG → mT)) := [(3 * 29 + 2, 1 + 1, xt_J5_append_cf1ce)]
def xf_J4_append_15ec4 (g : mG) : mF := (mLk xk_J4_append_15ec4, mLk ([] : List (Nat × Nat × Nat × Nat)), mLk (xl_J4_append_15ec4.map fun e => (e.1, e.2.1, e.2.2 g)), mLk ([] : List (Nat × mV)), mLk ([] : List (Nat × mV)), some (.object "java/lang/StringBuilder"))
theorem xm_J4_append_15ec4 (g : mG) : mMono (xf_J4_append_15ec4 g) := mMonoL (g := g) (l := xl_J4_append_15ec4) (List.forall_mem_cons.mpr ⟨xmo_J5_append_cf1ce, fun _ h => absurd h List.not_mem_nil⟩) rfl

theorem xv_J4_append_15ec4 (g : mG) (M : mM) (P : mP) (a : Nat)
    (h : ∃ x1 : Nat × List Int32 × List Int32, xpre_J5_append_cf1ce x1 g [.inr (some 0), .inr (some a)] M ∧ ∀ M2 : mM, xpost_J5_append_cf1ce x1 [.inr (some 0), .inr (some a)] M M2 → (P (some (.inr (some 0))) M2)) :
    mRun (xS sSH g) (xf_J4_append_15ec4 g) P (0, [some (.inr (some 0)), some (.inr (some a))], [], M) := mRun.vc (xm_J4_append_15ec4 g) [] 6 h

theorem xrun_J4_append_15ec4 : xRunOf sSH 2 xt_J4_append_15ec4 xf_J4_append_15ec4 := fun g as M P hT => by
  obtain ⟨⟨a, u, t⟩, ⟨rfl, hT, hS, hl, hk⟩, hP⟩ := hT
  refine ⟨Nat.le_of_ble_eq_true rfl, ?_⟩
  exact xv_J4_append_15ec4 g M P a ⟨(a, u, t), ⟨rfl, hT, hS, hl, hk⟩, fun M2 h => hP _ h⟩
theorem xok_J4_append_15ec4 : xOK sSH yJ4_append_15ec4 cJ4_append_15ec4 2 (some (.object "java/lang/StringBuilder")) 5 xt_J4_append_15ec4 := xOK.of xf_J4_append_15ec4 (by decide) (fun _ => rfl) (fun g => mCodeOK xkk_J4_append_15ec4) (fun g => mFldL (l := []) (fun _ h => absurd h List.not_mem_nil) rfl) (fun g idx v h => by cases h) (fun g idx v h => by cases h) (xCalL (l := xl_J4_append_15ec4) (List.forall_mem_cons.mpr ⟨xSite.SU (idx := 29) (ci := 1) xok_J5_append_cf1ce (fun _ h => h) (by decide) (by decide) xrc_J5_append_cf1ce rfl wc_J5_append_cf1ce wk_RJ4_29 (show Cond.sameMethod yJ5_append_cf1ce.cls yJ5_append_cf1ce.cls yJ5_append_cf1ce.name yJ5_append_cf1ce.desc ∈ mGW from mIn 1521 (by decide +kernel) rfl) (show Cond.superclass RJ4 yJ5_append_cf1ce.cls ∈ mGW from mIn 309 (by decide +kernel) rfl) wi_J5_append_cf1ce wn_RJ5 ⟨by decide, wd_J5_append_cf1ce.2.2⟩, fun _ h => absurd h List.not_mem_nil⟩) (fun _ => rfl)) xrun_J4_append_15ec4

theorem xrc_J4_append_15ec4 : xHasC sSH RJ4 1 xt_J4_append_15ec4 := by
  intro g as M P hT hl
  obtain ⟨q, hq, -⟩ := hT
  exact sIs0 hq.1

theorem xrv_J4_append_15ec4 : xHasR sSH yJ4_append_15ec4 1 xt_J4_append_15ec4 := xrc_J4_append_15ec4

/-- the digits of m, two at a time -/
def gD : Nat → Nat → List Int32
  | 0, _ => []
  | f + 1, m => if 100 ≤ m then gD f (m / 100) ++ [mDigT.getD (m % 100) 0, mDigO.getD (m % 100) 0] else if 10 ≤ m then [mDigT.getD m 0, mDigO.getD m 0] else [mDigO.getD m 0]
theorem gD_s {l : List Int32} {k n : Nat} (h : l.length = n) (h1 : 1 ≤ n) (h2 : n ≤ 6) (h3 : k < 10 ^ n) (h4 : n = 1 ∨ 10 ^ (n - 1) ≤ k) : 1 ≤ l.length ∧ l.length ≤ 6 ∧ k < 10 ^ l.length ∧ (l.length = 1 ∨ 10 ^ (l.length - 1) ≤ k) := by
  rw [h]
  exact ⟨h1, h2, h3, h4⟩
theorem gD_size {k : Nat} (h : k < 1000000) : 1 ≤ (gD 3 k).length ∧ (gD 3 k).length ≤ 6 ∧ k < 10 ^ (gD 3 k).length ∧ ((gD 3 k).length = 1 ∨ 10 ^ ((gD 3 k).length - 1) ≤ k) := by
  simp only [gD]
  by_cases h1 : 100 ≤ k
  · rw [if_pos h1]
    by_cases h2 : 100 ≤ k / 100
    · rw [if_pos h2]
      by_cases h3 : 100 ≤ k / 100 / 100
      · omega
      · rw [if_neg h3]
        by_cases h4 : 10 ≤ k / 100 / 100
        · rw [if_pos h4]
          exact gD_s (n := 6) rfl (by decide) (by decide) (show k < 1000000 by omega) (Or.inr (show 100000 ≤ k by omega))
        · rw [if_neg h4]
          exact gD_s (n := 5) rfl (by decide) (by decide) (show k < 100000 by omega) (Or.inr (show 10000 ≤ k by omega))
    · rw [if_neg h2]
      by_cases h4 : 10 ≤ k / 100
      · rw [if_pos h4]
        exact gD_s (n := 4) rfl (by decide) (by decide) (show k < 10000 by omega) (Or.inr (show 1000 ≤ k by omega))
      · rw [if_neg h4]
        exact gD_s (n := 3) rfl (by decide) (by decide) (show k < 1000 by omega) (Or.inr (show 100 ≤ k by omega))
  · rw [if_neg h1]
    by_cases h4 : 10 ≤ k
    · rw [if_pos h4]
      exact gD_s (n := 2) rfl (by decide) (by decide) (show k < 100 by omega) (Or.inr (show 10 ≤ k by omega))
    · rw [if_neg h4]
      exact gD_s (n := 1) rfl (by decide) (by decide) (show k < 10 by omega) (Or.inl rfl)
theorem dg_lo : ∀ r, r < 100 → ∃ k : Nat, k < 128 ∧ mDigT.getD r 0 = nI k := by
  have h : ∀ r, r < 100 → mDigT.getD r 0 = nI (48 + r / 10) ∧ 48 + r / 10 < 128 := by decide +kernel
  exact fun r hr => ⟨_, (h r hr).2, (h r hr).1⟩
theorem dg_lo2 : ∀ r, r < 100 → ∃ k : Nat, k < 128 ∧ mDigO.getD r 0 = nI k := by
  have h : ∀ r, r < 100 → mDigO.getD r 0 = nI (48 + r % 10) ∧ 48 + r % 10 < 128 := by decide +kernel
  exact fun r hr => ⟨_, (h r hr).2, (h r hr).1⟩
theorem sLo_app {t u : List Int32} (h : sLo t) (k : sLo u) : sLo (t ++ u) := fun j hj => by
  rw [List.length_append] at hj
  by_cases e : j < t.length
  · rw [gd_l e]
    exact h j e
  · rw [gd_r (by omega)]
    exact k _ (by omega)
theorem sLo_1 {x : Int32} (h : ∃ k : Nat, k < 128 ∧ x = nI k) : sLo [x] := fun j hj => by
  have hj : j < 1 := hj
  obtain rfl : j = 0 := by omega
  exact h
theorem gD_lo : ∀ f m, sLo (gD f m)
  | 0, _ => fun j hj => absurd hj (Nat.not_lt_zero j)
  | f + 1, m => by
    unfold gD
    split
    · exact sLo_app (gD_lo f _) (sLo_app (t := [_]) (sLo_1 (dg_lo _ (Nat.mod_lt _ (by decide)))) (sLo_1 (dg_lo2 _ (Nat.mod_lt _ (by decide)))))
    · split
      · exact sLo_app (t := [_]) (sLo_1 (dg_lo _ (by omega))) (sLo_1 (dg_lo2 _ (by omega)))
      · exact sLo_1 (dg_lo2 _ (by omega))
theorem dg_t8 : ∀ r, r < 100 → (mDigT.getD r 0).toInt8.toInt32 = mDigT.getD r 0 ∧ (mDigO.getD r 0).toInt8.toInt32 = mDigO.getD r 0 := by decide +kernel
theorem ng_toInt {m : Nat} (h : m < 2 ^ 31) : (-(nI m)).toInt = -(m : Int) := by
  rw [Int32.toInt_neg, nI_toInt h]
  exact Int.bmod_eq_of_le (by omega) (by omega)
theorem ng_le {a b : Nat} (ha : a < 2 ^ 31) (hb : b < 2 ^ 31) : -(nI a) ≤ -(nI b) ↔ b ≤ a := by
  rw [Int32.le_iff_toInt_le, ng_toInt ha, ng_toInt hb]
  omega
theorem ng_lt {a b : Nat} (ha : a < 2 ^ 31) (hb : b < 2 ^ 31) : -(nI a) < -(nI b) ↔ b < a := by
  rw [Int32.lt_iff_toInt_lt, ng_toInt ha, ng_toInt hb]
  omega
theorem ng_neg {m : Nat} : -(-(nI m)) = nI m := by simp
theorem ng_div {m : Nat} (h : m < 2 ^ 31) : -(nI m) / nI 100 = -(nI (m / 100)) := by
  apply Int32.toInt_inj.mp
  have h2 : (nI 100).toInt = 100 := by decide
  have h3 : Int.tdiv (-(m : Int)) 100 = -((m / 100 : Nat) : Int) := by
    rw [Int.neg_tdiv, Int.tdiv_eq_ediv_of_nonneg (by omega)]
    omega
  rw [Int32.toInt_div, ng_toInt h, ng_toInt (Nat.lt_of_le_of_lt (Nat.div_le_self m 100) h), h2, h3]
  exact Int.bmod_eq_of_le (by omega) (by omega)
theorem ng_rem {m : Nat} (h : m < 2 ^ 24) : -(nI m) / nI 100 * nI 100 - -(nI m) = nI (m % 100) := by
  apply Int32.toInt_inj.mp
  have h2 : (nI 100).toInt = 100 := by decide
  have e : (-(nI (m / 100)) * nI 100).toInt = -((m / 100 * 100 : Nat) : Int) := by
    rw [Int32.toInt_mul, ng_toInt (by omega), h2]
    rw [show -((m / 100 : Nat) : Int) * 100 = -((m / 100 * 100 : Nat) : Int) by omega]
    exact Int.bmod_eq_of_le (by omega) (by omega)
  rw [ng_div (by omega), Int32.toInt_sub, e, ng_toInt (by omega), nI_toInt (by omega)]
  rw [show -((m / 100 * 100 : Nat) : Int) - -(m : Int) = ((m % 100 : Nat) : Int) by omega]
  exact Int.bmod_eq_of_le (by omega) (by omega)

def xpre_J6_stringSize_0f7a4 (q : Nat) (g : mG) (as : List mV) (M : mM) : Prop := as = [.inl (nI q)] ∧ q < 1000000
def xpost_J6_stringSize_0f7a4 (q : Nat) (as : List mV) (M : mM) (v : Int32) (M' : mM) : Prop := v = nI (gD 3 q).length ∧ M' = M
abbrev xt_J6_stringSize_0f7a4 : mG → mT := mGi xpre_J6_stringSize_0f7a4 xpost_J6_stringSize_0f7a4
theorem xmo_J6_stringSize_0f7a4 : mMn xt_J6_stringSize_0f7a4 := mGi_mono

def xk_J6_stringSize_0f7a4 : List (Nat × mI) := [(0, .iconst 1, 1, 0, nI 1, []),
  (1, .istore_n 1, 1, 1, 0, []),
  (2, .iload_n 0, 1, 0, 0, []),
  (3, .ifCond .lt 8, 3, 11, 0, []),
  (6, .iconst 0, 1, 0, nI 0, []),
  (7, .istore_n 1, 1, 1, 0, []),
  (8, .iload_n 0, 1, 0, 0, []),
  (9, .ineg, 1, 0, 0, []),
  (10, .istore_n 0, 1, 0, 0, []),
  (11, .bipush (-10), 2, 0, -10, []),
  (13, .istore_n 2, 1, 2, 0, []),
  (14, .iconst 1, 1, 0, nI 1, []),
  (15, .istore_n 3, 1, 3, 0, []),
  (16, .iload_n 3, 1, 3, 0, []),
  (17, .bipush 10, 2, 0, nI 10, []),
  (19, .if_icmp .ge 23, 3, 42, 0, []),
  (22, .iload_n 0, 1, 0, 0, []),
  (23, .iload_n 2, 1, 2, 0, []),
  (24, .if_icmp .le 7, 3, 31, 0, []),
  (27, .iload_n 3, 1, 3, 0, []),
  (28, .iload_n 1, 1, 1, 0, []),
  (29, .iadd, 1, 0, 0, []),
  (30, .ireturn, 1, 0, 0, []),
  (31, .bipush 10, 2, 0, nI 10, []),
  (33, .iload_n 2, 1, 2, 0, []),
  (34, .imul, 1, 0, 0, []),
  (35, .istore_n 2, 1, 2, 0, []),
  (36, .iinc 3 1, 3, 3, nI 1, []),
  (39, .goto (-23), 3, 16, 0, []),
  (42, .bipush 10, 2, 0, nI 10, []),
  (44, .iload_n 1, 1, 1, 0, []),
  (45, .iadd, 1, 0, 0, []),
  (46, .ireturn, 1, 0, 0, [])]
theorem xkk_J6_stringSize_0f7a4 : (xk_J6_stringSize_0f7a4.all fun e => mChk cJ6_stringSize_0f7a4 e.1 e.2) = true := by decide +kernel
def xl_J6_stringSize_0f7a4 : List (Nat × Nat × (mG → mT)) := []
def xf_J6_stringSize_0f7a4 (g : mG) : mF := (mLk xk_J6_stringSize_0f7a4, mLk ([] : List (Nat × Nat × Nat × Nat)), mLk (xl_J6_stringSize_0f7a4.map fun e => (e.1, e.2.1, e.2.2 g)), mLk ([] : List (Nat × mV)), mLk ([] : List (Nat × mV)), some .int)
theorem xm_J6_stringSize_0f7a4 (g : mG) : mMono (xf_J6_stringSize_0f7a4 g) := mMonoL (g := g) (l := xl_J6_stringSize_0f7a4) (fun _ h => absurd h List.not_mem_nil) rfl

theorem xv_J6_stringSize_0f7a4 (g : mG) (M : mM) (P : mP) (k : Nat)
    (h : ((nI k) < 0 → mRun (xS sSH g) (xf_J6_stringSize_0f7a4 g) P (16, [some (.inl (nI k)), some (.inl (nI 1)), some (.inl (-10)), some (.inl (nI 1))], [], M)) ∧ (¬ ((nI k) < 0) → mRun (xS sSH g) (xf_J6_stringSize_0f7a4 g) P (16, [some (.inl (-(nI k))), some (.inl (nI 0)), some (.inl (-10)), some (.inl (nI 1))], [], M))) :
    mRun (xS sSH g) (xf_J6_stringSize_0f7a4 g) P (0, [some (.inl (nI k)), none, none, none], [], M) := mRun.vc (xm_J6_stringSize_0f7a4 g) [16] 14 h

theorem v_ssl (g : mG) (M : mM) (P : mP) (x d q i : Int32)
    (h : ((nI 10) ≤ i → P (some (.inl ((nI 10) + d))) M) ∧ (¬ ((nI 10) ≤ i) → (x ≤ q → mRun (xS sSH g) (xf_J6_stringSize_0f7a4 g) P (16, [some (.inl x), some (.inl d), some (.inl ((nI 10) * q)), some (.inl (i + (nI 1)))], [], M)) ∧ (¬ (x ≤ q) → P (some (.inl (i + d))) M))) :
    mRun (xS sSH g) (xf_J6_stringSize_0f7a4 g) P (16, [some (.inl x), some (.inl d), some (.inl q), some (.inl i)], [], M) := mRun.vc (xm_J6_stringSize_0f7a4 g) [16] 13 h

theorem ss_p10 : ∀ i, i < 8 → nI 10 * -(nI (10 ^ i)) = -(nI (10 ^ (i + 1))) := by decide +kernel
theorem ss_go (g : mG) (M : mM) (P : mP) (k s : Nat) (hk : k < 1000000) (hs : s ≤ 6) (h1 : k < 10 ^ s) (h2 : s = 1 ∨ 10 ^ (s - 1) ≤ k) (hP : P (some (.inl (nI s))) M) : ∀ n i, i + n = s → 1 ≤ i →
    mRun (xS sSH g) (xf_J6_stringSize_0f7a4 g) P (16, [some (.inl (-(nI k))), some (.inl (nI 0)), some (.inl (-(nI (10 ^ i)))), some (.inl (nI i))], [], M) := by
  intro n
  induction n with
  | zero =>
    intro i hi h
    have hi : i = s := hi
    subst hi
    have hp : 10 ^ i ≤ 10 ^ 6 := Nat.pow_le_pow_right (by decide) hs
    refine v_ssl g M P _ _ _ _ ⟨fun w => absurd w (nI_ge (by omega) (by decide)), fun _ => ⟨fun w => ?_, fun _ => ?_⟩⟩
    · have := (ng_le (by omega) (by omega)).mp w
      omega
    · rw [nI_add, Nat.add_zero]
      exact hP
  | succ n ih =>
    intro i hi h
    have hp : 10 ^ i ≤ 10 ^ 6 := Nat.pow_le_pow_right (by decide) (by omega)
    have hq : 10 ^ i ≤ 10 ^ (s - 1) := Nat.pow_le_pow_right (by decide) (by omega)
    refine v_ssl g M P _ _ _ _ ⟨fun w => absurd w (nI_ge (by omega) (by decide)), fun _ => ⟨fun _ => ?_, fun w => absurd ?_ w⟩⟩
    · rw [ss_p10 i (by omega), nI_add]
      exact ih (i + 1) (by omega) (by omega)
    · exact (ng_le (by omega) (by omega)).mpr (by omega)
theorem xrun_J6_stringSize_0f7a4 : xRunOf sSH 4 xt_J6_stringSize_0f7a4 xf_J6_stringSize_0f7a4 := fun g as M P hT => by
  obtain ⟨k, ⟨rfl, hk⟩, hP⟩ := hT
  refine ⟨Nat.le_of_ble_eq_true rfl, ?_⟩
  obtain ⟨s1, s2, s3, s4⟩ := gD_size hk
  refine xv_J6_stringSize_0f7a4 g M P k ⟨fun w => absurd w (nI_pos (by omega)), fun _ => ?_⟩
  exact ss_go g M P k _ hk s2 s3 s4 (hP _ _ ⟨rfl, rfl⟩) _ 1 (by omega : 1 + ((gD 3 k).length - 1) = (gD 3 k).length) (Nat.le_refl 1)
theorem xok_J6_stringSize_0f7a4 : xOK sSH yJ6_stringSize_0f7a4 cJ6_stringSize_0f7a4 4 (some .int) 1 xt_J6_stringSize_0f7a4 := xOK.of xf_J6_stringSize_0f7a4 (by decide) (fun _ => rfl) (fun g => mCodeOK xkk_J6_stringSize_0f7a4) (fun g => mFldL (l := []) (fun _ h => absurd h List.not_mem_nil) rfl) (fun g idx v h => by cases h) (fun g idx v h => by cases h) (xCalL (l := xl_J6_stringSize_0f7a4) (fun _ h => absurd h List.not_mem_nil) (fun _ => rfl)) xrun_J6_stringSize_0f7a4

def xpre_J6_getChars_ba4f3 (q : Nat × Nat) (g : mG) (as : List mV) (M : mM) : Prop := as = [.inl (nI q.1), .inl (nI (q.2 + (gD 3 q.1).length)), .inr (some 1)] ∧ q.1 < 1000000 ∧ q.2 + (gD 3 q.1).length ≤ 16
def xpost_J6_getChars_ba4f3 (q : Nat × Nat) (as : List mV) (M : mM) (v : Int32) (M' : mM) : Prop := (∀ d, d ≠ 1 → M' d = M d) ∧ ∀ j, M' 1 j = if q.2 ≤ j ∧ j < q.2 + (gD 3 q.1).length then (gD 3 q.1).getD (j - q.2) 0 else M 1 j
abbrev xt_J6_getChars_ba4f3 : mG → mT := mGi xpre_J6_getChars_ba4f3 xpost_J6_getChars_ba4f3
theorem xmo_J6_getChars_ba4f3 : mMn xt_J6_getChars_ba4f3 := mGi_mono

def xk_J6_getChars_ba4f3 : List (Nat × mI) := [(0, .iload_n 1, 1, 1, 0, []),
  (1, .istore 5, 2, 5, 0, []),
  (3, .iload_n 0, 1, 0, 0, []),
  (4, .ifCond .ge 7, 3, 11, 0, []),
  (7, .iconst 1, 1, 0, nI 1, []),
  (8, .goto 4, 3, 12, 0, []),
  (11, .iconst 0, 1, 0, nI 0, []),
  (12, .istore 6, 2, 6, 0, []),
  (14, .iload 6, 2, 6, 0, []),
  (16, .ifCond .ne 6, 3, 22, 0, []),
  (19, .iload_n 0, 1, 0, 0, []),
  (20, .ineg, 1, 0, 0, []),
  (21, .istore_n 0, 1, 0, 0, []),
  (22, .iload_n 0, 1, 0, 0, []),
  (23, .bipush (-100), 2, 0, -100, []),
  (25, .if_icmp .gt 47, 3, 72, 0, []),
  (28, .iload_n 0, 1, 0, 0, []),
  (29, .bipush 100, 2, 0, nI 100, []),
  (31, .idiv, 1, 0, 0, []),
  (32, .istore_n 3, 1, 3, 0, []),
  (33, .iload_n 3, 1, 3, 0, []),
  (34, .bipush 100, 2, 0, nI 100, []),
  (36, .imul, 1, 0, 0, []),
  (37, .iload_n 0, 1, 0, 0, []),
  (38, .isub, 1, 0, 0, []),
  (39, .istore 4, 2, 4, 0, []),
  (41, .iload_n 3, 1, 3, 0, []),
  (42, .istore_n 0, 1, 0, 0, []),
  (43, .aload_n 2, 1, 2, 0, []),
  (44, .iinc 5 (-1), 3, 5, -1, []),
  (47, .iload 5, 2, 5, 0, []),
  (49, .getstatic 83, 3, 0, 0, []),
  (52, .iload 4, 2, 4, 0, []),
  (54, .baload, 1, 0, 0, []),
  (55, .bastore, 1, 0, 0, []),
  (56, .aload_n 2, 1, 2, 0, []),
  (57, .iinc 5 (-1), 3, 5, -1, []),
  (60, .iload 5, 2, 5, 0, []),
  (62, .getstatic 87, 3, 0, 0, []),
  (65, .iload 4, 2, 4, 0, []),
  (67, .baload, 1, 0, 0, []),
  (68, .bastore, 1, 0, 0, []),
  (69, .goto (-47), 3, 22, 0, []),
  (72, .aload_n 2, 1, 2, 0, []),
  (73, .iinc 5 (-1), 3, 5, -1, []),
  (76, .iload 5, 2, 5, 0, []),
  (78, .getstatic 83, 3, 0, 0, []),
  (81, .iload_n 0, 1, 0, 0, []),
  (82, .ineg, 1, 0, 0, []),
  (83, .baload, 1, 0, 0, []),
  (84, .bastore, 1, 0, 0, []),
  (85, .iload_n 0, 1, 0, 0, []),
  (86, .bipush (-9), 2, 0, -9, []),
  (88, .if_icmp .ge 16, 3, 104, 0, []),
  (91, .aload_n 2, 1, 2, 0, []),
  (92, .iinc 5 (-1), 3, 5, -1, []),
  (95, .iload 5, 2, 5, 0, []),
  (97, .getstatic 87, 3, 0, 0, []),
  (100, .iload_n 0, 1, 0, 0, []),
  (101, .ineg, 1, 0, 0, []),
  (102, .baload, 1, 0, 0, []),
  (103, .bastore, 1, 0, 0, []),
  (104, .iload 6, 2, 6, 0, []),
  (106, .ifCond .eq 12, 3, 118, 0, []),
  (109, .aload_n 2, 1, 2, 0, []),
  (110, .iinc 5 (-1), 3, 5, -1, []),
  (113, .iload 5, 2, 5, 0, []),
  (115, .bipush 45, 2, 0, nI 45, []),
  (117, .bastore, 1, 0, 0, []),
  (118, .iload 5, 2, 5, 0, []),
  (120, .ireturn, 1, 0, 0, [])]
theorem xkk_J6_getChars_ba4f3 : (xk_J6_getChars_ba4f3.all fun e => mChk cJ6_getChars_ba4f3 e.1 e.2) = true := by decide +kernel
def xl_J6_getChars_ba4f3 : List (Nat × Nat × (mG → mT)) := []
def xf_J6_getChars_ba4f3 (g : mG) : mF := (mLk xk_J6_getChars_ba4f3, mLk ([] : List (Nat × Nat × Nat × Nat)), mLk (xl_J6_getChars_ba4f3.map fun e => (e.1, e.2.1, e.2.2 g)), mLk ([] : List (Nat × mV)), mLk ([(83, .inr (some 1201)), (87, .inr (some 1200))] : List (Nat × mV)), some .int)
theorem xm_J6_getChars_ba4f3 (g : mG) : mMono (xf_J6_getChars_ba4f3 g) := mMonoL (g := g) (l := xl_J6_getChars_ba4f3) (fun _ h => absurd h List.not_mem_nil) rfl

theorem xv_J6_getChars_ba4f3 (g : mG) (M : mM) (P : mP) (k n : Nat)
    (h : (0 ≤ (nI k) → (¬ (nI 0) = 0 → mRun (xS sSH g) (xf_J6_getChars_ba4f3 g) P (22, [some (.inl (nI k)), some (.inl (nI n)), some (.inr (some 1)), none, none, some (.inl (nI n)), some (.inl (nI 0))], [], M)) ∧ (¬ (¬ (nI 0) = 0) → mRun (xS sSH g) (xf_J6_getChars_ba4f3 g) P (22, [some (.inl (-(nI k))), some (.inl (nI n)), some (.inr (some 1)), none, none, some (.inl (nI n)), some (.inl (nI 0))], [], M))) ∧ (¬ (0 ≤ (nI k)) → (¬ (nI 1) = 0 → mRun (xS sSH g) (xf_J6_getChars_ba4f3 g) P (22, [some (.inl (nI k)), some (.inl (nI n)), some (.inr (some 1)), none, none, some (.inl (nI n)), some (.inl (nI 1))], [], M)) ∧ (¬ (¬ (nI 1) = 0) → mRun (xS sSH g) (xf_J6_getChars_ba4f3 g) P (22, [some (.inl (-(nI k))), some (.inl (nI n)), some (.inr (some 1)), none, none, some (.inl (nI n)), some (.inl (nI 1))], [], M)))) :
    mRun (xS sSH g) (xf_J6_getChars_ba4f3 g) P (0, [some (.inl (nI k)), some (.inl (nI n)), some (.inr (some 1)), none, none, none, none], [], M) := mRun.vc (xm_J6_getChars_ba4f3 g) [22] 13 h

theorem v_gcl (g : mG) (M : mM) (P : mP) (u w : Option mV) (x n c b : Int32)
    (h : ((-100) < x → vp_in (-x) mDigO.length ∧ (vp_in (c + (-1)) 16 ∧ (let M2 : mM := mW1 M 1 ((c + (-1)).toNatClampNeg) (((mDigO : List Int32).getD (-x).toNatClampNeg 0).toInt8.toInt32); ((-9) ≤ x → (b = 0 → P (some (.inl (c + (-1)))) M2) ∧ (¬ (b = 0) → vp_in ((c + (-1)) + (-1)) 16 ∧ (let M5 : mM := mW1 M2 1 (((c + (-1)) + (-1)).toNatClampNeg) ((nI 45).toInt8.toInt32); P (some (.inl ((c + (-1)) + (-1)))) M5))) ∧ (¬ ((-9) ≤ x) → vp_in (-x) mDigT.length ∧ (vp_in ((c + (-1)) + (-1)) 16 ∧ (let M6 : mM := mW1 M2 1 (((c + (-1)) + (-1)).toNatClampNeg) (((mDigT : List Int32).getD (-x).toNatClampNeg 0).toInt8.toInt32); (b = 0 → P (some (.inl ((c + (-1)) + (-1)))) M6) ∧ (¬ (b = 0) → vp_in (((c + (-1)) + (-1)) + (-1)) 16 ∧ (let M8 : mM := mW1 M6 1 ((((c + (-1)) + (-1)) + (-1)).toNatClampNeg) ((nI 45).toInt8.toInt32); P (some (.inl (((c + (-1)) + (-1)) + (-1)))) M8)))))))) ∧ (¬ ((-100) < x) → ¬ (nI 100) = 0 ∧ (vp_in (((x / (nI 100)) * (nI 100)) - x) mDigO.length ∧ (vp_in (c + (-1)) 16 ∧ (let M9 : mM := mW1 M 1 ((c + (-1)).toNatClampNeg) (((mDigO : List Int32).getD (((x / (nI 100)) * (nI 100)) - x).toNatClampNeg 0).toInt8.toInt32); vp_in (((x / (nI 100)) * (nI 100)) - x) mDigT.length ∧ (vp_in ((c + (-1)) + (-1)) 16 ∧ (let M10 : mM := mW1 M9 1 (((c + (-1)) + (-1)).toNatClampNeg) (((mDigT : List Int32).getD (((x / (nI 100)) * (nI 100)) - x).toNatClampNeg 0).toInt8.toInt32); mRun (xS sSH g) (xf_J6_getChars_ba4f3 g) P (22, [some (.inl (x / (nI 100))), some (.inl n), some (.inr (some 1)), some (.inl (x / (nI 100))), some (.inl (((x / (nI 100)) * (nI 100)) - x)), some (.inl ((c + (-1)) + (-1))), some (.inl b)], [], M10)))))))) :
    mRun (xS sSH g) (xf_J6_getChars_ba4f3 g) P (22, [some (.inl x), some (.inl n), some (.inr (some 1)), u, w, some (.inl c), some (.inl b)], [], M) := mRun.vc (xm_J6_getChars_ba4f3 g) [22] 31 h

theorem gc_len : mDigT.length = 100 ∧ mDigO.length = 100 := by decide +kernel
theorem gc_go (g : mG) (P : mP) (p : Nat) (n : Int32) : ∀ (f m : Nat) (M : mM) (u w : Option mV), m < 100 ^ f → 0 < f → m < 1000000 → p + (gD f m).length ≤ 16 → (∀ v M', ((∀ d, d ≠ 1 → M' d = M d) ∧ ∀ j, M' 1 j = if p ≤ j ∧ j < p + (gD f m).length then (gD f m).getD (j - p) 0 else M 1 j) → P (some (.inl v)) M') →
    mRun (xS sSH g) (xf_J6_getChars_ba4f3 g) P (22, [some (.inl (-(nI m))), some (.inl n), some (.inr (some 1)), u, w, some (.inl (nI (p + (gD f m).length))), some (.inl (nI 0))], [], M) := by
  intro f
  induction f with
  | zero => intro m M u w _ h; omega
  | succ f ih =>
    intro m M u w hm _ hmm hp hP
    refine v_gcl g M P u w _ _ _ _ ?_
    by_cases h1 : 100 ≤ m
    · have eg : gD (f + 1) m = gD f (m / 100) ++ [mDigT.getD (m % 100) 0, mDigO.getD (m % 100) 0] := by
        rw [gD, if_pos h1]
      have el : (gD (f + 1) m).length = (gD f (m / 100)).length + 2 := by rw [eg, List.length_append]; rfl
      rw [el] at hp hP ⊢
      have hf : 0 < f := by
        rcases Nat.eq_zero_or_pos f with e | e
        · subst e
          have : m < 100 := hm
          omega
        · exact e
      have hm2 : m / 100 < 100 ^ f := by
        rw [Nat.pow_succ] at hm
        exact Nat.div_lt_of_lt_mul (by rw [Nat.mul_comm]; exact hm)
      have hr : m % 100 < 100 := Nat.mod_lt _ (by decide)
      have c1 : nI (p + ((gD f (m / 100)).length + 2)) + -1 = nI (p + (gD f (m / 100)).length + 1) := pk_m1 (p + (gD f (m / 100)).length + 1)
      have c2 : nI (p + (gD f (m / 100)).length + 1) + -1 = nI (p + (gD f (m / 100)).length) := pk_m1 (p + (gD f (m / 100)).length)
      refine ⟨fun w => absurd ((ng_lt (a := 100) (by decide) (by omega)).mp w) (by omega), fun _ => ⟨by decide, ?_⟩⟩
      rw [c1, c2, ng_rem (by omega), ng_div (by omega), nI_clamp (n := p + (gD f (m / 100)).length + 1) (by omega), nI_clamp (n := p + (gD f (m / 100)).length) (by omega), nI_clamp (n := m % 100) (by omega), (dg_t8 _ hr).1, (dg_t8 _ hr).2]
      refine ⟨by rw [gc_len.2]; exact vp_in_nI hr (by decide), vp_in_nI (by omega) (by decide), ?_⟩
      intro M9
      refine ⟨by rw [gc_len.1]; exact vp_in_nI hr (by decide), vp_in_nI (by omega) (by decide), ?_⟩
      intro M10
      refine ih (m / 100) M10 _ _ hm2 hf (by omega) (by omega) (fun v M' h => hP v M' ⟨fun d hd => ?_, fun j => ?_⟩)
      · rw [h.1 d hd, show M10 d = M9 d from sw_c hd, show M9 d = M d from sw_c hd]
      · rw [h.2 j]
        by_cases e1 : p ≤ j ∧ j < p + (gD f (m / 100)).length
        · rw [if_pos e1, if_pos (by omega), eg, gd_l (by omega)]
        · rw [if_neg e1]
          by_cases e2 : j = p + (gD f (m / 100)).length
          · rw [if_pos (by omega), eg, gd_r (by omega), e2, show M10 1 _ = _ from sw_a, show p + (gD f (m / 100)).length - p - (gD f (m / 100)).length = 0 by omega]
            rfl
          · rw [show M10 1 j = M9 1 j from sw_k e2]
            by_cases e3 : j = p + (gD f (m / 100)).length + 1
            · rw [if_pos (by omega), eg, gd_r (by omega), e3, show M9 1 _ = _ from sw_a, show p + (gD f (m / 100)).length + 1 - p - (gD f (m / 100)).length = 1 by omega]
              rfl
            · rw [if_neg (by omega)]
              exact sw_k e3
    · have hm100 : m < 100 := by omega
      refine ⟨fun _ => ?_, fun w => absurd ((ng_lt (a := 100) (by decide) (by omega)).mpr hm100) w⟩
      rw [ng_neg, nI_clamp (n := m) (by omega), (dg_t8 m hm100).1, (dg_t8 m hm100).2]
      refine ⟨by rw [gc_len.2]; exact vp_in_nI hm100 (by decide), ?_⟩
      by_cases h2 : 10 ≤ m
      · have eg : gD (f + 1) m = [mDigT.getD m 0, mDigO.getD m 0] := by rw [gD, if_neg h1, if_pos h2]
        have el : (gD (f + 1) m).length = 2 := by rw [eg]; rfl
        rw [el] at hp hP ⊢
        have c1 : nI (p + 2) + -1 = nI (p + 1) := pk_m1 (p + 1)
        have c2 : nI (p + 1) + -1 = nI p := pk_m1 p
        rw [c1, c2, nI_clamp (n := p + 1) (by omega), nI_clamp (n := p) (by omega)]
        refine ⟨vp_in_nI (by omega) (by decide), ?_⟩
        intro M2
        refine ⟨fun w => absurd ((ng_le (a := 9) (by decide) (by omega)).mp w) (by omega), fun _ => ⟨by rw [gc_len.1]; exact vp_in_nI hm100 (by decide), vp_in_nI (by omega) (by decide), ?_⟩⟩
        intro M6
        refine ⟨fun _ => hP _ _ ⟨fun d hd => ?_, fun j => ?_⟩, fun w => absurd rfl w⟩
        · rw [show M6 d = M2 d from sw_c hd, show M2 d = M d from sw_c hd]
        · by_cases e2 : j = p
          · rw [if_pos (by omega), eg, e2, show M6 1 _ = _ from sw_a, Nat.sub_self]
            rfl
          · rw [show M6 1 j = M2 1 j from sw_k e2]
            by_cases e3 : j = p + 1
            · rw [if_pos (by omega), eg, e3, show M2 1 _ = _ from sw_a, show p + 1 - p = 1 by omega]
              rfl
            · rw [if_neg (by omega)]
              exact sw_k e3
      · have eg : gD (f + 1) m = [mDigO.getD m 0] := by rw [gD, if_neg h1, if_neg h2]
        have el : (gD (f + 1) m).length = 1 := by rw [eg]; rfl
        rw [el] at hp hP ⊢
        have c1 : nI (p + 1) + -1 = nI p := pk_m1 p
        rw [c1, nI_clamp (n := p) (by omega)]
        refine ⟨vp_in_nI (by omega) (by decide), ?_⟩
        intro M2
        refine ⟨fun _ => ⟨fun _ => hP _ _ ⟨fun d hd => sw_c hd, fun j => ?_⟩, fun w => absurd rfl w⟩, fun w => absurd ((ng_le (a := 9) (by decide) (by omega)).mpr (by omega)) w⟩
        by_cases e2 : j = p
        · rw [if_pos (by omega), eg, e2, show M2 1 _ = _ from sw_a, Nat.sub_self]
          rfl
        · rw [if_neg (by omega)]
          exact sw_k e2
theorem xrun_J6_getChars_ba4f3 : xRunOf sSH 7 xt_J6_getChars_ba4f3 xf_J6_getChars_ba4f3 := fun g as M P hT => by
  obtain ⟨⟨k, p⟩, ⟨rfl, hk, hp⟩, hP⟩ := hT
  refine ⟨Nat.le_of_ble_eq_true rfl, ?_⟩
  dsimp only at hk hp
  refine xv_J6_getChars_ba4f3 g M P k _ ⟨fun _ => ⟨fun w => absurd rfl w, fun _ => ?_⟩, fun w => absurd (nI_pos' (by omega)) w⟩
  exact gc_go g P p _ 3 k M _ _ hk (by decide) hk hp (fun v M' h => hP v M' h)
theorem xsk_J6_getChars_ba4f3 : mStaT RJ6 xf_J6_getChars_ba4f3 := mStaL (l := fun g => ([(83, .inr (some 1201)), (87, .inr (some 1200))] : List (Nat × mV))) (fun g => List.forall_mem_cons.mpr ⟨Or.inr (Or.inr (Or.inl ⟨rfl, (show Cond.fieldLink RJ6 83 "java/lang/Integer" "DigitOnes" "[B" ∈ mGW from mIn 828 (by decide +kernel) rfl)⟩)), List.forall_mem_cons.mpr ⟨Or.inr (Or.inl ⟨rfl, (show Cond.fieldLink RJ6 87 "java/lang/Integer" "DigitTens" "[B" ∈ mGW from mIn 830 (by decide +kernel) rfl)⟩), fun _ h => absurd h List.not_mem_nil⟩⟩) (fun _ => rfl)
theorem xok_J6_getChars_ba4f3 : xOK sSH yJ6_getChars_ba4f3 cJ6_getChars_ba4f3 7 (some .int) 1 xt_J6_getChars_ba4f3 := xOK.of xf_J6_getChars_ba4f3 (by decide) (fun _ => rfl) (fun g => mCodeOK xkk_J6_getChars_ba4f3) (fun g => mFldL (l := []) (fun _ h => absurd h List.not_mem_nil) rfl) (fun g idx v h => by cases h) xsk_J6_getChars_ba4f3 (xCalL (l := xl_J6_getChars_ba4f3) (fun _ h => absurd h List.not_mem_nil) (fun _ => rfl)) xrun_J6_getChars_ba4f3

def xpre_J5_append_c97b9 (q : Nat × List Int32) (g : mG) (as : List mV) (M : mM) : Prop := as = [.inr (some 0), .inl (nI q.1)] ∧ q.1 < 1000000 ∧ SBt M q.2 ∧ q.2.length + (gD 3 q.1).length ≤ 16
def xpost_J5_append_c97b9 (q : Nat × List Int32) (as : List mV) (M : mM) (M' : mM) : Prop := SBt M' (q.2 ++ gD 3 q.1) ∧ ∀ d, 2 ≤ d → M' d = M d
abbrev xt_J5_append_c97b9 : mG → mT := mGa xpre_J5_append_c97b9 xpost_J5_append_c97b9
theorem xmo_J5_append_c97b9 : mMn xt_J5_append_c97b9 := mGa_mono

def xk_J5_append_c97b9 : List (Nat × mI) := [(0, .aload_n 0, 1, 0, 0, []),
  (1, .getfield 79, 3, 0, 0, []),
  (4, .istore_n 2, 1, 2, 0, []),
  (5, .iload_n 2, 1, 2, 0, []),
  (6, .iload_n 1, 1, 1, 0, []),
  (7, .invokestatic 245, 3, 0, 0, []),
  (10, .iadd, 1, 0, 0, []),
  (11, .istore_n 3, 1, 3, 0, []),
  (12, .aload_n 0, 1, 0, 0, []),
  (13, .iload_n 3, 1, 3, 0, []),
  (14, .invokevirtual 100, 3, 0, 0, []),
  (17, .aload_n 0, 1, 0, 0, []),
  (18, .invokevirtual 83, 3, 0, 0, []),
  (21, .ifCond .eq 16, 3, 37, 0, []),
  (24, .iload_n 1, 1, 1, 0, []),
  (25, .iload_n 3, 1, 3, 0, []),
  (26, .aload_n 0, 1, 0, 0, []),
  (27, .getfield 15, 3, 0, 0, []),
  (30, .invokestatic 248, 3, 0, 0, []),
  (33, .pop, 1, 0, 0, []),
  (34, .goto 14, 3, 48, 0, []),
  (37, .iload_n 1, 1, 1, 0, []),
  (38, .iload_n 2, 1, 2, 0, []),
  (39, .iload_n 3, 1, 3, 0, []),
  (40, .aload_n 0, 1, 0, 0, []),
  (41, .getfield 15, 3, 0, 0, []),
  (44, .invokestatic 251, 3, 0, 0, []),
  (47, .pop, 1, 0, 0, []),
  (48, .aload_n 0, 1, 0, 0, []),
  (49, .iload_n 3, 1, 3, 0, []),
  (50, .putfield 79, 3, 0, 0, []),
  (53, .aload_n 0, 1, 0, 0, []),
  (54, .areturn, 1, 0, 0, [])]
theorem xkk_J5_append_c97b9 : (xk_J5_append_c97b9.all fun e => mChk cJ5_append_c97b9 e.1 e.2) = true := by decide +kernel
def xl_J5_append_c97b9 : List (Nat × Nat × (mG → mT)) := [(3 * 245 + 1, 1, xt_J6_stringSize_0f7a4), (3 * 100, 1 + 1, xt_J5_ensureCapacityInternal_d00df), (3 * 83, 0 + 1, xt_J5_isLatin1_aae02), (3 * 248 + 1, 3, xt_J6_getChars_ba4f3)]
def xf_J5_append_c97b9 (g : mG) : mF := (mLk xk_J5_append_c97b9, mLk fl_RJ5, mLk (xl_J5_append_c97b9.map fun e => (e.1, e.2.1, e.2.2 g)), mLk ([] : List (Nat × mV)), mLk ([] : List (Nat × mV)), some (.object "java/lang/AbstractStringBuilder"))
theorem xm_J5_append_c97b9 (g : mG) : mMono (xf_J5_append_c97b9 g) := mMonoL (g := g) (l := xl_J5_append_c97b9) (List.forall_mem_cons.mpr ⟨xmo_J6_stringSize_0f7a4, List.forall_mem_cons.mpr ⟨xmo_J5_ensureCapacityInternal_d00df, List.forall_mem_cons.mpr ⟨xmo_J5_isLatin1_aae02, List.forall_mem_cons.mpr ⟨xmo_J6_getChars_ba4f3, fun _ h => absurd h List.not_mem_nil⟩⟩⟩⟩) rfl

theorem xv_J5_append_c97b9 (g : mG) (M : mM) (P : mP) (k : Nat)
    (h : ∃ x1 : Nat, xpre_J6_stringSize_0f7a4 x1 g [.inl (nI k)] M ∧ ∀ (r3 : Int32) (M2 : mM), xpost_J6_stringSize_0f7a4 x1 [.inl (nI k)] M r3 M2 → (∃ x4 : Nat, xpre_J5_ensureCapacityInternal_d00df x4 g [.inr (some 0), .inl ((M 0 3) + r3)] M2 ∧ ∀ M5 : mM, xpost_J5_ensureCapacityInternal_d00df x4 [.inr (some 0), .inl ((M 0 3) + r3)] M2 M5 → (∃ x6 : Unit, xpre_J5_isLatin1_aae02 x6 g [.inr (some 0)] M5 ∧ ∀ (r8 : Int32) (M7 : mM), xpost_J5_isLatin1_aae02 x6 [.inr (some 0)] M5 r8 M7 → ((r8 = 0 → False) ∧ (¬ (r8 = 0) → ∃ x10 : Nat × Nat, xpre_J6_getChars_ba4f3 x10 g [.inl (nI k), .inl ((M 0 3) + r3), .inr (some 1)] M7 ∧ ∀ (r12 : Int32) (M11 : mM), xpost_J6_getChars_ba4f3 x10 [.inl (nI k), .inl ((M 0 3) + r3), .inr (some 1)] M7 r12 M11 → (let M13 : mM := mW1 M11 0 3 ((M 0 3) + r3); P (some (.inr (some 0))) M13)))))) :
    mRun (xS sSH g) (xf_J5_append_c97b9 g) P (0, [some (.inr (some 0)), some (.inl (nI k)), none, none], [], M) := mRun.vc (xm_J5_append_c97b9 g) [] 26 h

theorem xrun_J5_append_c97b9 : xRunOf sSH 4 xt_J5_append_c97b9 xf_J5_append_c97b9 := fun g as M P hT => by
  obtain ⟨⟨k, t⟩, ⟨rfl, hk, hS, hn⟩, hP⟩ := hT
  refine ⟨Nat.le_of_ble_eq_true rfl, ?_⟩
  dsimp only at hk hS hn
  have hS0 := hS
  obtain ⟨b1, b2, b3, b4⟩ := hS
  refine xv_J5_append_c97b9 g M P k ⟨k, ⟨rfl, hk⟩, fun r3 M2 h => ?_⟩
  obtain ⟨e1, e2⟩ : r3 = nI (gD 3 k).length ∧ M2 = M := h
  rw [e1, e2, b2, nI_add]
  refine ⟨t.length + (gD 3 k).length, ⟨rfl, b1, hn⟩, fun M5 h => ?_⟩
  rw [show M5 = M from h]
  refine ⟨(), ⟨rfl, b1⟩, fun r8 M7 h => ?_⟩
  obtain ⟨e3, e4⟩ : r8 = nI 1 ∧ M7 = M := h
  rw [e3, e4]
  refine ⟨fun w => absurd w (by decide), fun _ => ⟨(k, t.length), ⟨rfl, hk, hn⟩, fun r12 M11 h => ?_⟩⟩
  exact hP _ (sb_put hS0 hn h.1 h.2 rfl)
theorem xok_J5_append_c97b9 : xOK sSH yJ5_append_c97b9 cJ5_append_c97b9 4 (some (.object "java/lang/AbstractStringBuilder")) 2 xt_J5_append_c97b9 := xOK.of xf_J5_append_c97b9 (by decide) (fun _ => rfl) (fun g => mCodeOK xkk_J5_append_c97b9) (fun g => mFldL fk_RJ5 rfl) (fun g idx v h => by cases h) (fun g idx v h => by cases h) (xCalL (l := xl_J5_append_c97b9) (List.forall_mem_cons.mpr ⟨xSite.S (idx := 245) xok_J6_stringSize_0f7a4 (fun _ h => h) (by decide) (by decide) wc_J6_stringSize_0f7a4 wk_RJ5_245 wt_J6_stringSize_0f7a4 wn_RJ6 wd_J6_stringSize_0f7a4, List.forall_mem_cons.mpr ⟨xSite.U (idx := 100) (C := RJ4) xok_J5_ensureCapacityInternal_d00df (fun _ h => h) (by decide) (by decide) xrc_J5_ensureCapacityInternal_d00df wc_J5_ensureCapacityInternal_d00df wk_RJ5_100 (show Cond.sameMethod yJ5_ensureCapacityInternal_d00df.cls yJ5_ensureCapacityInternal_d00df.cls yJ5_ensureCapacityInternal_d00df.name yJ5_ensureCapacityInternal_d00df.desc ∈ mGW from mIn 1519 (by decide +kernel) rfl) wi_J5_ensureCapacityInternal_d00df (xInP 0 rfl) wn_RJ5 wd_J5_ensureCapacityInternal_d00df, List.forall_mem_cons.mpr ⟨xSite.U (idx := 83) (C := RJ4) xok_J5_isLatin1_aae02 (fun _ h => h) (by decide) (by decide) xrc_J5_isLatin1_aae02 wc_J5_isLatin1_aae02 wk_RJ5_83 (show Cond.sameMethod yJ5_isLatin1_aae02.cls yJ5_isLatin1_aae02.cls yJ5_isLatin1_aae02.name yJ5_isLatin1_aae02.desc ∈ mGW from mIn 723 (by decide +kernel) rfl) wi_J5_isLatin1_aae02 (xIn (mIn 724 (by decide +kernel) rfl)) wn_RJ5 wd_J5_isLatin1_aae02, List.forall_mem_cons.mpr ⟨xSite.S (idx := 248) xok_J6_getChars_ba4f3 (fun _ h => h) (by decide) (by decide) wc_J6_getChars_ba4f3 wk_RJ5_248 wt_J6_getChars_ba4f3 wn_RJ6 wd_J6_getChars_ba4f3, fun _ h => absurd h List.not_mem_nil⟩⟩⟩⟩) (fun _ => rfl)) xrun_J5_append_c97b9

theorem xrc_J5_append_c97b9 : xHasC sSH RJ4 1 xt_J5_append_c97b9 := by
  intro g as M P hT hl
  obtain ⟨q, hq, -⟩ := hT
  exact sIs0 hq.1

def xpre_J4_append_bf812 (q : Nat × List Int32) (g : mG) (as : List mV) (M : mM) : Prop := as = [.inr (some 0), .inl (nI q.1)] ∧ q.1 < 1000000 ∧ SBt M q.2 ∧ q.2.length + (gD 3 q.1).length ≤ 16
def xpost_J4_append_bf812 (q : Nat × List Int32) (as : List mV) (M : mM) (M' : mM) : Prop := SBt M' (q.2 ++ gD 3 q.1) ∧ ∀ d, 2 ≤ d → M' d = M d
abbrev xt_J4_append_bf812 : mG → mT := mGa xpre_J4_append_bf812 xpost_J4_append_bf812
theorem xmo_J4_append_bf812 : mMn xt_J4_append_bf812 := mGa_mono

def xk_J4_append_bf812 : List (Nat × mI) := [(0, .aload_n 0, 1, 0, 0, []),
  (1, .iload_n 1, 1, 1, 0, []),
  (2, .invokespecial 53, 3, 0, 0, []),
  (5, .pop, 1, 0, 0, []),
  (6, .aload_n 0, 1, 0, 0, []),
  (7, .areturn, 1, 0, 0, [])]
theorem xkk_J4_append_bf812 : (xk_J4_append_bf812.all fun e => mChk cJ4_append_bf812 e.1 e.2) = true := by decide +kernel
def xl_J4_append_bf812 : List (Nat × Nat × (mG → mT)) := [(3 * 53 + 2, 1 + 1, xt_J5_append_c97b9)]
def xf_J4_append_bf812 (g : mG) : mF := (mLk xk_J4_append_bf812, mLk ([] : List (Nat × Nat × Nat × Nat)), mLk (xl_J4_append_bf812.map fun e => (e.1, e.2.1, e.2.2 g)), mLk ([] : List (Nat × mV)), mLk ([] : List (Nat × mV)), some (.object "java/lang/StringBuilder"))
theorem xm_J4_append_bf812 (g : mG) : mMono (xf_J4_append_bf812 g) := mMonoL (g := g) (l := xl_J4_append_bf812) (List.forall_mem_cons.mpr ⟨xmo_J5_append_c97b9, fun _ h => absurd h List.not_mem_nil⟩) rfl

theorem xv_J4_append_bf812 (g : mG) (M : mM) (P : mP) (k : Nat)
    (h : ∃ x1 : Nat × List Int32, xpre_J5_append_c97b9 x1 g [.inr (some 0), .inl (nI k)] M ∧ ∀ M2 : mM, xpost_J5_append_c97b9 x1 [.inr (some 0), .inl (nI k)] M M2 → (P (some (.inr (some 0))) M2)) :
    mRun (xS sSH g) (xf_J4_append_bf812 g) P (0, [some (.inr (some 0)), some (.inl (nI k))], [], M) := mRun.vc (xm_J4_append_bf812 g) [] 6 h

theorem xrun_J4_append_bf812 : xRunOf sSH 2 xt_J4_append_bf812 xf_J4_append_bf812 := fun g as M P hT => by
  obtain ⟨⟨k, t⟩, ⟨rfl, hk, hS, hn⟩, hP⟩ := hT
  refine ⟨Nat.le_of_ble_eq_true rfl, ?_⟩
  exact xv_J4_append_bf812 g M P k ⟨(k, t), ⟨rfl, hk, hS, hn⟩, fun M2 h => hP _ h⟩
theorem xok_J4_append_bf812 : xOK sSH yJ4_append_bf812 cJ4_append_bf812 2 (some (.object "java/lang/StringBuilder")) 3 xt_J4_append_bf812 := xOK.of xf_J4_append_bf812 (by decide) (fun _ => rfl) (fun g => mCodeOK xkk_J4_append_bf812) (fun g => mFldL (l := []) (fun _ h => absurd h List.not_mem_nil) rfl) (fun g idx v h => by cases h) (fun g idx v h => by cases h) (xCalL (l := xl_J4_append_bf812) (List.forall_mem_cons.mpr ⟨xSite.SU (idx := 53) (ci := 1) xok_J5_append_c97b9 (fun _ h => h) (by decide) (by decide) xrc_J5_append_c97b9 rfl wc_J5_append_c97b9 wk_RJ4_53 (show Cond.sameMethod yJ5_append_c97b9.cls yJ5_append_c97b9.cls yJ5_append_c97b9.name yJ5_append_c97b9.desc ∈ mGW from mIn 1527 (by decide +kernel) rfl) (show Cond.superclass RJ4 yJ5_append_c97b9.cls ∈ mGW from mIn 309 (by decide +kernel) rfl) wi_J5_append_c97b9 wn_RJ5 ⟨by decide, wd_J5_append_c97b9.2.2⟩, fun _ h => absurd h List.not_mem_nil⟩) (fun _ => rfl)) xrun_J4_append_bf812

theorem xrc_J4_append_bf812 : xHasC sSH RJ4 1 xt_J4_append_bf812 := by
  intro g as M P hT hl
  obtain ⟨q, hq, -⟩ := hT
  exact sIs0 hq.1

theorem xrv_J4_append_bf812 : xHasR sSH yJ4_append_bf812 1 xt_J4_append_bf812 := xrc_J4_append_bf812
