/-! ===== TEXTS THAT ARE CONSTANTS ===== -/
theorem mStaL {own : String} {F : mG → mF} {l : mG → List (Nat × mV)} (h : ∀ (g : mG), ∀ e ∈ l g, (e.2 = .inl 1 ∧ Cond.fieldLink own e.1 "java/lang/String" "COMPACT_STRINGS" "Z" ∈ mGW) ∨ (e.2 = .inr (some 1200) ∧ Cond.fieldLink own e.1 "java/lang/Integer" "DigitTens" "[B" ∈ mGW) ∨ (e.2 = .inr (some 1201) ∧ Cond.fieldLink own e.1 "java/lang/Integer" "DigitOnes" "[B" ∈ mGW) ∨ (e.2 = .inr g.2.2.2.1 ∧ Cond.fieldLink own e.1 "jdk/internal/util/Preconditions" "SIOOBE_FORMATTER" "Ljava/util/function/BiFunction;" ∈ mGW)) (hF : ∀ g, (F g).2.2.2.2.1 = mLk (l g)) : mStaT own F := by
  intro g idx v hq
  rw [hF] at hq
  exact h g _ (mLk_mem hq)
def k_J0_coder_7d493 : List (Nat × mI) := [(0, .getstatic 38, 3, 0, 0, []),
  (3, .ifCond .eq 10, 3, 13, 0, []),
  (6, .aload_n 0, 1, 0, 0, []),
  (7, .getfield 15, 3, 0, 0, []),
  (10, .goto 4, 3, 14, 0, []),
  (13, .iconst 1, 1, 0, nI 1, []),
  (14, .ireturn, 1, 0, 0, [])]
theorem kk_J0_coder_7d493 : (k_J0_coder_7d493.all fun e => mChk cJ0_coder_7d493 e.1 e.2) = true := by decide +kernel
def l_J0_coder_7d493 : List (Nat × Nat × (mG → mT)) := []
def f_J0_coder_7d493 (g : mG) : mF := (mLk k_J0_coder_7d493, mLk fl_RJ0, mLk (l_J0_coder_7d493.map fun e => (e.1, e.2.1, e.2.2 g)), mLk ([] : List (Nat × mV)), mLk ([(38, .inl 1)] : List (Nat × mV)), some .byte)
theorem m_J0_coder_7d493 (g : mG) : mMono (f_J0_coder_7d493 g) := mMonoL (g := g) (l := l_J0_coder_7d493) (fun _ h => absurd h List.not_mem_nil) rfl
def t_J0_coder_7d493 : mG → mT := mIV pl_J0 f_J0_coder_7d493 1 8
theorem mo_J0_coder_7d493 : mMn t_J0_coder_7d493 := mIV_mono m_J0_coder_7d493
theorem rv_J0_coder_7d493 : mHasR yJ0_coder_7d493 0 t_J0_coder_7d493 := mIV_recv is_J0
theorem sk_J0_coder_7d493 : mStaT RJ0 f_J0_coder_7d493 := mStaL (l := fun g => ([(38, .inl 1)] : List (Nat × mV))) (fun g => List.forall_mem_cons.mpr ⟨Or.inl ⟨rfl, (show Cond.fieldLink RJ0 38 "java/lang/String" "COMPACT_STRINGS" "Z" ∈ mGW from mIn 420 (by decide +kernel) rfl)⟩, fun _ h => absurd h List.not_mem_nil⟩) (fun _ => rfl)
theorem ok_J0_coder_7d493 : mOK yJ0_coder_7d493 cJ0_coder_7d493 1 (some .byte) 1 t_J0_coder_7d493 := mOK.of f_J0_coder_7d493 (by decide) (fun _ => rfl) (fun g => mCodeOK kk_J0_coder_7d493) (fun g => mFldL fk_RJ0 rfl) (fun g idx v h => by cases h) sk_J0_coder_7d493 (mCalL (l := l_J0_coder_7d493) (fun _ h => absurd h List.not_mem_nil) (fun _ => rfl)) (mIV_run m_J0_coder_7d493)

def k_J0_isLatin1_aae02 : List (Nat × mI) := [(0, .getstatic 38, 3, 0, 0, []),
  (3, .ifCond .eq 14, 3, 17, 0, []),
  (6, .aload_n 0, 1, 0, 0, []),
  (7, .getfield 15, 3, 0, 0, []),
  (10, .ifCond .ne 7, 3, 17, 0, []),
  (13, .iconst 1, 1, 0, nI 1, []),
  (14, .goto 4, 3, 18, 0, []),
  (17, .iconst 0, 1, 0, nI 0, []),
  (18, .ireturn, 1, 0, 0, [])]
theorem kk_J0_isLatin1_aae02 : (k_J0_isLatin1_aae02.all fun e => mChk cJ0_isLatin1_aae02 e.1 e.2) = true := by decide +kernel
def l_J0_isLatin1_aae02 : List (Nat × Nat × (mG → mT)) := []
def f_J0_isLatin1_aae02 (g : mG) : mF := (mLk k_J0_isLatin1_aae02, mLk fl_RJ0, mLk (l_J0_isLatin1_aae02.map fun e => (e.1, e.2.1, e.2.2 g)), mLk ([] : List (Nat × mV)), mLk ([(38, .inl 1)] : List (Nat × mV)), some .boolean)
theorem m_J0_isLatin1_aae02 (g : mG) : mMono (f_J0_isLatin1_aae02 g) := mMonoL (g := g) (l := l_J0_isLatin1_aae02) (fun _ h => absurd h List.not_mem_nil) rfl
def t_J0_isLatin1_aae02 : mG → mT := mIV pl_J0 f_J0_isLatin1_aae02 1 10
theorem mo_J0_isLatin1_aae02 : mMn t_J0_isLatin1_aae02 := mIV_mono m_J0_isLatin1_aae02
theorem rv_J0_isLatin1_aae02 : mHasR yJ0_isLatin1_aae02 0 t_J0_isLatin1_aae02 := mIV_recv is_J0
theorem sk_J0_isLatin1_aae02 : mStaT RJ0 f_J0_isLatin1_aae02 := mStaL (l := fun g => ([(38, .inl 1)] : List (Nat × mV))) (fun g => List.forall_mem_cons.mpr ⟨Or.inl ⟨rfl, (show Cond.fieldLink RJ0 38 "java/lang/String" "COMPACT_STRINGS" "Z" ∈ mGW from mIn 420 (by decide +kernel) rfl)⟩, fun _ h => absurd h List.not_mem_nil⟩) (fun _ => rfl)
theorem ok_J0_isLatin1_aae02 : mOK yJ0_isLatin1_aae02 cJ0_isLatin1_aae02 1 (some .boolean) 1 t_J0_isLatin1_aae02 := mOK.of f_J0_isLatin1_aae02 (by decide) (fun _ => rfl) (fun g => mCodeOK kk_J0_isLatin1_aae02) (fun g => mFldL fk_RJ0 rfl) (fun g idx v h => by cases h) sk_J0_isLatin1_aae02 (mCalL (l := l_J0_isLatin1_aae02) (fun _ h => absurd h List.not_mem_nil) (fun _ => rfl)) (mIV_run m_J0_isLatin1_aae02)

def k_J3_checkIndex_8e157 : List (Nat × mI) := [(0, .iload_n 0, 1, 0, 0, []),
  (1, .ifCond .lt 8, 3, 9, 0, []),
  (4, .iload_n 0, 1, 0, 0, []),
  (5, .iload_n 1, 1, 1, 0, []),
  (6, .if_icmp .lt 10, 3, 16, 0, []),
  (9, .aload_n 2, 1, 2, 0, []),
  (10, .iload_n 0, 1, 0, 0, []),
  (11, .iload_n 1, 1, 1, 0, []),
  (12, .invokestatic 95, 3, 0, 0, []),
  (15, .athrow, 1, 0, 0, []),
  (16, .iload_n 0, 1, 0, 0, []),
  (17, .ireturn, 1, 0, 0, [])]
theorem kk_J3_checkIndex_8e157 : (k_J3_checkIndex_8e157.all fun e => mChk cJ3_checkIndex_8e157 e.1 e.2) = true := by decide +kernel
def l_J3_checkIndex_8e157 : List (Nat × Nat × (mG → mT)) := []
def f_J3_checkIndex_8e157 (g : mG) : mF := (mLk k_J3_checkIndex_8e157, mLk ([] : List (Nat × Nat × Nat × Nat)), mLk (l_J3_checkIndex_8e157.map fun e => (e.1, e.2.1, e.2.2 g)), mLk ([] : List (Nat × mV)), mLk ([] : List (Nat × mV)), some .int)
theorem m_J3_checkIndex_8e157 (g : mG) : mMono (f_J3_checkIndex_8e157 g) := mMonoL (g := g) (l := l_J3_checkIndex_8e157) (fun _ h => absurd h List.not_mem_nil) rfl
def t_J3_checkIndex_8e157 : mG → mT := mSV f_J3_checkIndex_8e157 3 13
theorem mo_J3_checkIndex_8e157 : mMn t_J3_checkIndex_8e157 := mSV_mono m_J3_checkIndex_8e157
theorem ok_J3_checkIndex_8e157 : mOK yJ3_checkIndex_8e157 cJ3_checkIndex_8e157 3 (some .int) 1 t_J3_checkIndex_8e157 := mOK.of f_J3_checkIndex_8e157 (by decide) (fun _ => rfl) (fun g => mCodeOK kk_J3_checkIndex_8e157) (fun g => mFldL (l := []) (fun _ h => absurd h List.not_mem_nil) rfl) (fun g idx v h => by cases h) (fun g idx v h => by cases h) (mCalL (l := l_J3_checkIndex_8e157) (fun _ h => absurd h List.not_mem_nil) (fun _ => rfl)) (mSV_run m_J3_checkIndex_8e157)

def k_J0_checkIndex_df160 : List (Nat × mI) := [(0, .iload_n 0, 1, 0, 0, []),
  (1, .iload_n 1, 1, 1, 0, []),
  (2, .getstatic 1053, 3, 0, 0, []),
  (5, .invokestatic 1059, 3, 0, 0, []),
  (8, .pop, 1, 0, 0, []),
  (9, .return_, 1, 0, 0, [])]
theorem kk_J0_checkIndex_df160 : (k_J0_checkIndex_df160.all fun e => mChk cJ0_checkIndex_df160 e.1 e.2) = true := by decide +kernel
def l_J0_checkIndex_df160 : List (Nat × Nat × (mG → mT)) := [(3 * 1059 + 1, 3, t_J3_checkIndex_8e157)]
def f_J0_checkIndex_df160 (g : mG) : mF := (mLk k_J0_checkIndex_df160, mLk fl_RJ0, mLk (l_J0_checkIndex_df160.map fun e => (e.1, e.2.1, e.2.2 g)), mLk ([] : List (Nat × mV)), mLk ([(1053, .inr g.2.2.2.1)] : List (Nat × mV)), none)
theorem m_J0_checkIndex_df160 (g : mG) : mMono (f_J0_checkIndex_df160 g) := mMonoL (g := g) (l := l_J0_checkIndex_df160) (List.forall_mem_cons.mpr ⟨mo_J3_checkIndex_8e157, fun _ h => absurd h List.not_mem_nil⟩) rfl
def t_J0_checkIndex_df160 : mG → mT := mSV f_J0_checkIndex_df160 2 7
theorem mo_J0_checkIndex_df160 : mMn t_J0_checkIndex_df160 := mSV_mono m_J0_checkIndex_df160
theorem sk_J0_checkIndex_df160 : mStaT RJ0 f_J0_checkIndex_df160 := mStaL (l := fun g => ([(1053, .inr g.2.2.2.1)] : List (Nat × mV))) (fun g => List.forall_mem_cons.mpr ⟨Or.inr (Or.inr (Or.inr ⟨rfl, (show Cond.fieldLink RJ0 1053 "jdk/internal/util/Preconditions" "SIOOBE_FORMATTER" "Ljava/util/function/BiFunction;" ∈ mGW from mIn 435 (by decide +kernel) rfl)⟩)), fun _ h => absurd h List.not_mem_nil⟩) (fun _ => rfl)
theorem ok_J0_checkIndex_df160 : mOK yJ0_checkIndex_df160 cJ0_checkIndex_df160 2 (none) 2 t_J0_checkIndex_df160 := mOK.of f_J0_checkIndex_df160 (by decide) (fun _ => rfl) (fun g => mCodeOK kk_J0_checkIndex_df160) (fun g => mFldL fk_RJ0 rfl) (fun g idx v h => by cases h) sk_J0_checkIndex_df160 (mCalL (l := l_J0_checkIndex_df160) (List.forall_mem_cons.mpr ⟨mSite.S (idx := 1059) ok_J3_checkIndex_8e157 (by decide) (by decide) wc_J3_checkIndex_8e157 wk_RJ0_1059 wt_J3_checkIndex_8e157 wn_RJ3 wd_J3_checkIndex_8e157, fun _ h => absurd h List.not_mem_nil⟩) (fun _ => rfl)) (mSV_run m_J0_checkIndex_df160)

def k_J1_charAt_3b067 : List (Nat × mI) := [(0, .iload_n 1, 1, 1, 0, []),
  (1, .aload_n 0, 1, 0, 0, []),
  (2, .arraylength, 1, 0, 0, []),
  (3, .invokestatic 9, 3, 0, 0, []),
  (6, .aload_n 0, 1, 0, 0, []),
  (7, .iload_n 1, 1, 1, 0, []),
  (8, .baload, 1, 0, 0, []),
  (9, .sipush 255, 3, 0, nI 255, []),
  (12, .iand, 1, 0, 0, []),
  (13, .i2c, 1, 0, 0, []),
  (14, .ireturn, 1, 0, 0, [])]
theorem kk_J1_charAt_3b067 : (k_J1_charAt_3b067.all fun e => mChk cJ1_charAt_3b067 e.1 e.2) = true := by decide +kernel
def l_J1_charAt_3b067 : List (Nat × Nat × (mG → mT)) := [(3 * 9 + 1, 2, t_J0_checkIndex_df160)]
def f_J1_charAt_3b067 (g : mG) : mF := (mLk k_J1_charAt_3b067, mLk ([] : List (Nat × Nat × Nat × Nat)), mLk (l_J1_charAt_3b067.map fun e => (e.1, e.2.1, e.2.2 g)), mLk ([] : List (Nat × mV)), mLk ([] : List (Nat × mV)), some .char)
theorem m_J1_charAt_3b067 (g : mG) : mMono (f_J1_charAt_3b067 g) := mMonoL (g := g) (l := l_J1_charAt_3b067) (List.forall_mem_cons.mpr ⟨mo_J0_checkIndex_df160, fun _ h => absurd h List.not_mem_nil⟩) rfl
def t_J1_charAt_3b067 : mG → mT := mSV f_J1_charAt_3b067 2 12
theorem mo_J1_charAt_3b067 : mMn t_J1_charAt_3b067 := mSV_mono m_J1_charAt_3b067
theorem ok_J1_charAt_3b067 : mOK yJ1_charAt_3b067 cJ1_charAt_3b067 2 (some .char) 3 t_J1_charAt_3b067 := mOK.of f_J1_charAt_3b067 (by decide) (fun _ => rfl) (fun g => mCodeOK kk_J1_charAt_3b067) (fun g => mFldL (l := []) (fun _ h => absurd h List.not_mem_nil) rfl) (fun g idx v h => by cases h) (fun g idx v h => by cases h) (mCalL (l := l_J1_charAt_3b067) (List.forall_mem_cons.mpr ⟨mSite.S (idx := 9) ok_J0_checkIndex_df160 (by decide) (by decide) wc_J0_checkIndex_df160 wk_RJ1_9 wt_J0_checkIndex_df160 wn_RJ0 wd_J0_checkIndex_df160, fun _ h => absurd h List.not_mem_nil⟩) (fun _ => rfl)) (mSV_run m_J1_charAt_3b067)

/-- word w -/
def wB (w : Nat) : List Int32 := (mRoB[w]?).getD []
/-- bytes from .. to of t are word w -/
def dTx (t : List Int32) (w a b : Nat) : Bool := decide (b - a = (wB w).length) && fA (fun j => decide (bA t (a + j) = (wB w).getD j 0)) (wB w).length 0
theorem wB_len : ∀ w, w < 17 → (wB w).length ≤ 8 := by decide +kernel
theorem wB_chr : ∀ w, w < 17 → ∀ j, j < (wB w).length → ((((wB w).getD (nI j).toNatClampNeg 0) &&& nI 255).toUInt32 % 65536).toInt32 = (wB w).getD j 0 := by decide +kernel
theorem wB_chr2 : ∀ w, w < 17 → ∀ j, j < (wB w).length → ((((((wB w).getD (nI j).toNatClampNeg 0) &&& nI 255).toUInt32 % 65536).toInt32).toUInt32 % 65536).toInt32 = ((((wB w).getD (nI j).toNatClampNeg 0) &&& nI 255).toUInt32 % 65536).toInt32 := by decide +kernel

def pre_J0_length_8abf5 (w : Nat) (as : List mV) (_ : mM) : Prop := w < 17 ∧ as = [.inr (some (1000 + w))]
def post_J0_length_8abf5 (w : Nat) (_ : List mV) (M : mM) (v : Int32) (M' : mM) : Prop := v = nI (wB w).length ∧ M' = M
abbrev t_J0_length_8abf5 : mG → mT := mRi pre_J0_length_8abf5 post_J0_length_8abf5
theorem mo_J0_length_8abf5 : mMn t_J0_length_8abf5 := mRi_mono
theorem mRoS_w {w : Nat} (h : w < 17) : mRoS (1000 + w) = true := by
  unfold mRoS
  rw [Bool.and_eq_true, Nat.ble_eq, Nat.blt_eq]
  omega
theorem rv_J0_length_8abf5 : mHasR yJ0_length_8abf5 0 t_J0_length_8abf5 := by
  intro g as M P hT hl
  obtain ⟨q, ⟨h1, h2⟩, -⟩ := hT
  exact ⟨_, _, h2, is_J0 g _ (mRoS_w h1)⟩
def k_J0_length_8abf5 : List (Nat × mI) := [(0, .aload_n 0, 1, 0, 0, []),
  (1, .getfield 9, 3, 0, 0, []),
  (4, .arraylength, 1, 0, 0, []),
  (5, .aload_n 0, 1, 0, 0, []),
  (6, .invokevirtual 335, 3, 0, 0, []),
  (9, .ishr, 1, 0, 0, []),
  (10, .ireturn, 1, 0, 0, [])]
theorem kk_J0_length_8abf5 : (k_J0_length_8abf5.all fun e => mChk cJ0_length_8abf5 e.1 e.2) = true := by decide +kernel
def l_J0_length_8abf5 : List (Nat × Nat × (mG → mT)) := [(3 * 335, 0 + 1, t_J0_coder_7d493)]
def f_J0_length_8abf5 (g : mG) : mF := (mLk k_J0_length_8abf5, mLk fl_RJ0, mLk (l_J0_length_8abf5.map fun e => (e.1, e.2.1, e.2.2 g)), mLk ([] : List (Nat × mV)), mLk ([] : List (Nat × mV)), some .int)
theorem m_J0_length_8abf5 (g : mG) : mMono (f_J0_length_8abf5 g) := mMonoL (g := g) (l := l_J0_length_8abf5) (List.forall_mem_cons.mpr ⟨mo_J0_coder_7d493, fun _ h => absurd h List.not_mem_nil⟩) rfl

theorem v_len_0 (g : mG) (M : mM) (P : mP) 
    (h : ((1 : Int32) = 0 → (nI 1).toInt8.toInt32 = (nI 1) ∧ (P (some (.inl ((nI 4) >>> ((nI 1) &&& 31)))) M)) ∧ (¬ ((1 : Int32) = 0) → (0 : Int32).toInt8.toInt32 = (0 : Int32) ∧ (P (some (.inl ((nI 4) >>> ((0 : Int32) &&& 31)))) M))) :
    mRun (mSx g) (f_J0_length_8abf5 g) P (0, [some (.inr (some 1000))], [], M) := mRun.vc (m_J0_length_8abf5 g) [] 7 h

theorem v_len_1 (g : mG) (M : mM) (P : mP) 
    (h : ((1 : Int32) = 0 → (nI 1).toInt8.toInt32 = (nI 1) ∧ (P (some (.inl ((nI 3) >>> ((nI 1) &&& 31)))) M)) ∧ (¬ ((1 : Int32) = 0) → (0 : Int32).toInt8.toInt32 = (0 : Int32) ∧ (P (some (.inl ((nI 3) >>> ((0 : Int32) &&& 31)))) M))) :
    mRun (mSx g) (f_J0_length_8abf5 g) P (0, [some (.inr (some 1001))], [], M) := mRun.vc (m_J0_length_8abf5 g) [] 7 h

theorem v_len_2 (g : mG) (M : mM) (P : mP) 
    (h : ((1 : Int32) = 0 → (nI 1).toInt8.toInt32 = (nI 1) ∧ (P (some (.inl ((nI 4) >>> ((nI 1) &&& 31)))) M)) ∧ (¬ ((1 : Int32) = 0) → (0 : Int32).toInt8.toInt32 = (0 : Int32) ∧ (P (some (.inl ((nI 4) >>> ((0 : Int32) &&& 31)))) M))) :
    mRun (mSx g) (f_J0_length_8abf5 g) P (0, [some (.inr (some 1002))], [], M) := mRun.vc (m_J0_length_8abf5 g) [] 7 h

theorem v_len_3 (g : mG) (M : mM) (P : mP) 
    (h : ((1 : Int32) = 0 → (nI 1).toInt8.toInt32 = (nI 1) ∧ (P (some (.inl ((nI 6) >>> ((nI 1) &&& 31)))) M)) ∧ (¬ ((1 : Int32) = 0) → (0 : Int32).toInt8.toInt32 = (0 : Int32) ∧ (P (some (.inl ((nI 6) >>> ((0 : Int32) &&& 31)))) M))) :
    mRun (mSx g) (f_J0_length_8abf5 g) P (0, [some (.inr (some 1003))], [], M) := mRun.vc (m_J0_length_8abf5 g) [] 7 h

theorem v_len_4 (g : mG) (M : mM) (P : mP) 
    (h : ((1 : Int32) = 0 → (nI 1).toInt8.toInt32 = (nI 1) ∧ (P (some (.inl ((nI 8) >>> ((nI 1) &&& 31)))) M)) ∧ (¬ ((1 : Int32) = 0) → (0 : Int32).toInt8.toInt32 = (0 : Int32) ∧ (P (some (.inl ((nI 8) >>> ((0 : Int32) &&& 31)))) M))) :
    mRun (mSx g) (f_J0_length_8abf5 g) P (0, [some (.inr (some 1004))], [], M) := mRun.vc (m_J0_length_8abf5 g) [] 7 h

theorem v_len_5 (g : mG) (M : mM) (P : mP) 
    (h : ((1 : Int32) = 0 → (nI 1).toInt8.toInt32 = (nI 1) ∧ (P (some (.inl ((nI 4) >>> ((nI 1) &&& 31)))) M)) ∧ (¬ ((1 : Int32) = 0) → (0 : Int32).toInt8.toInt32 = (0 : Int32) ∧ (P (some (.inl ((nI 4) >>> ((0 : Int32) &&& 31)))) M))) :
    mRun (mSx g) (f_J0_length_8abf5 g) P (0, [some (.inr (some 1005))], [], M) := mRun.vc (m_J0_length_8abf5 g) [] 7 h

theorem v_len_6 (g : mG) (M : mM) (P : mP) 
    (h : ((1 : Int32) = 0 → (nI 1).toInt8.toInt32 = (nI 1) ∧ (P (some (.inl ((nI 5) >>> ((nI 1) &&& 31)))) M)) ∧ (¬ ((1 : Int32) = 0) → (0 : Int32).toInt8.toInt32 = (0 : Int32) ∧ (P (some (.inl ((nI 5) >>> ((0 : Int32) &&& 31)))) M))) :
    mRun (mSx g) (f_J0_length_8abf5 g) P (0, [some (.inr (some 1006))], [], M) := mRun.vc (m_J0_length_8abf5 g) [] 7 h

theorem v_len_7 (g : mG) (M : mM) (P : mP) 
    (h : ((1 : Int32) = 0 → (nI 1).toInt8.toInt32 = (nI 1) ∧ (P (some (.inl ((nI 4) >>> ((nI 1) &&& 31)))) M)) ∧ (¬ ((1 : Int32) = 0) → (0 : Int32).toInt8.toInt32 = (0 : Int32) ∧ (P (some (.inl ((nI 4) >>> ((0 : Int32) &&& 31)))) M))) :
    mRun (mSx g) (f_J0_length_8abf5 g) P (0, [some (.inr (some 1007))], [], M) := mRun.vc (m_J0_length_8abf5 g) [] 7 h

theorem v_len_8 (g : mG) (M : mM) (P : mP) 
    (h : ((1 : Int32) = 0 → (nI 1).toInt8.toInt32 = (nI 1) ∧ (P (some (.inl ((nI 4) >>> ((nI 1) &&& 31)))) M)) ∧ (¬ ((1 : Int32) = 0) → (0 : Int32).toInt8.toInt32 = (0 : Int32) ∧ (P (some (.inl ((nI 4) >>> ((0 : Int32) &&& 31)))) M))) :
    mRun (mSx g) (f_J0_length_8abf5 g) P (0, [some (.inr (some 1008))], [], M) := mRun.vc (m_J0_length_8abf5 g) [] 7 h

theorem v_len_9 (g : mG) (M : mM) (P : mP) 
    (h : ((1 : Int32) = 0 → (nI 1).toInt8.toInt32 = (nI 1) ∧ (P (some (.inl ((nI 0) >>> ((nI 1) &&& 31)))) M)) ∧ (¬ ((1 : Int32) = 0) → (0 : Int32).toInt8.toInt32 = (0 : Int32) ∧ (P (some (.inl ((nI 0) >>> ((0 : Int32) &&& 31)))) M))) :
    mRun (mSx g) (f_J0_length_8abf5 g) P (0, [some (.inr (some 1009))], [], M) := mRun.vc (m_J0_length_8abf5 g) [] 7 h

theorem v_len_10 (g : mG) (M : mM) (P : mP) 
    (h : ((1 : Int32) = 0 → (nI 1).toInt8.toInt32 = (nI 1) ∧ (P (some (.inl ((nI 1) >>> ((nI 1) &&& 31)))) M)) ∧ (¬ ((1 : Int32) = 0) → (0 : Int32).toInt8.toInt32 = (0 : Int32) ∧ (P (some (.inl ((nI 1) >>> ((0 : Int32) &&& 31)))) M))) :
    mRun (mSx g) (f_J0_length_8abf5 g) P (0, [some (.inr (some 1010))], [], M) := mRun.vc (m_J0_length_8abf5 g) [] 7 h

theorem v_len_11 (g : mG) (M : mM) (P : mP) 
    (h : ((1 : Int32) = 0 → (nI 1).toInt8.toInt32 = (nI 1) ∧ (P (some (.inl ((nI 1) >>> ((nI 1) &&& 31)))) M)) ∧ (¬ ((1 : Int32) = 0) → (0 : Int32).toInt8.toInt32 = (0 : Int32) ∧ (P (some (.inl ((nI 1) >>> ((0 : Int32) &&& 31)))) M))) :
    mRun (mSx g) (f_J0_length_8abf5 g) P (0, [some (.inr (some 1011))], [], M) := mRun.vc (m_J0_length_8abf5 g) [] 7 h

theorem v_len_12 (g : mG) (M : mM) (P : mP) 
    (h : ((1 : Int32) = 0 → (nI 1).toInt8.toInt32 = (nI 1) ∧ (P (some (.inl ((nI 1) >>> ((nI 1) &&& 31)))) M)) ∧ (¬ ((1 : Int32) = 0) → (0 : Int32).toInt8.toInt32 = (0 : Int32) ∧ (P (some (.inl ((nI 1) >>> ((0 : Int32) &&& 31)))) M))) :
    mRun (mSx g) (f_J0_length_8abf5 g) P (0, [some (.inr (some 1012))], [], M) := mRun.vc (m_J0_length_8abf5 g) [] 7 h

theorem v_len_13 (g : mG) (M : mM) (P : mP) 
    (h : ((1 : Int32) = 0 → (nI 1).toInt8.toInt32 = (nI 1) ∧ (P (some (.inl ((nI 1) >>> ((nI 1) &&& 31)))) M)) ∧ (¬ ((1 : Int32) = 0) → (0 : Int32).toInt8.toInt32 = (0 : Int32) ∧ (P (some (.inl ((nI 1) >>> ((0 : Int32) &&& 31)))) M))) :
    mRun (mSx g) (f_J0_length_8abf5 g) P (0, [some (.inr (some 1013))], [], M) := mRun.vc (m_J0_length_8abf5 g) [] 7 h

theorem v_len_14 (g : mG) (M : mM) (P : mP) 
    (h : ((1 : Int32) = 0 → (nI 1).toInt8.toInt32 = (nI 1) ∧ (P (some (.inl ((nI 1) >>> ((nI 1) &&& 31)))) M)) ∧ (¬ ((1 : Int32) = 0) → (0 : Int32).toInt8.toInt32 = (0 : Int32) ∧ (P (some (.inl ((nI 1) >>> ((0 : Int32) &&& 31)))) M))) :
    mRun (mSx g) (f_J0_length_8abf5 g) P (0, [some (.inr (some 1014))], [], M) := mRun.vc (m_J0_length_8abf5 g) [] 7 h

theorem v_len_15 (g : mG) (M : mM) (P : mP) 
    (h : ((1 : Int32) = 0 → (nI 1).toInt8.toInt32 = (nI 1) ∧ (P (some (.inl ((nI 5) >>> ((nI 1) &&& 31)))) M)) ∧ (¬ ((1 : Int32) = 0) → (0 : Int32).toInt8.toInt32 = (0 : Int32) ∧ (P (some (.inl ((nI 5) >>> ((0 : Int32) &&& 31)))) M))) :
    mRun (mSx g) (f_J0_length_8abf5 g) P (0, [some (.inr (some 1015))], [], M) := mRun.vc (m_J0_length_8abf5 g) [] 7 h

theorem v_len_16 (g : mG) (M : mM) (P : mP) 
    (h : ((1 : Int32) = 0 → (nI 1).toInt8.toInt32 = (nI 1) ∧ (P (some (.inl ((nI 1) >>> ((nI 1) &&& 31)))) M)) ∧ (¬ ((1 : Int32) = 0) → (0 : Int32).toInt8.toInt32 = (0 : Int32) ∧ (P (some (.inl ((nI 1) >>> ((0 : Int32) &&& 31)))) M))) :
    mRun (mSx g) (f_J0_length_8abf5 g) P (0, [some (.inr (some 1016))], [], M) := mRun.vc (m_J0_length_8abf5 g) [] 7 h

theorem run_J0_length_8abf5 : mRunOf 1 t_J0_length_8abf5 f_J0_length_8abf5 := fun g as M P hT => by
  obtain ⟨w, ⟨h1, rfl⟩, hP⟩ := hT
  refine ⟨Nat.le_of_ble_eq_true rfl, ?_⟩
  rcases (by omega : w = 0 ∨ w = 1 ∨ w = 2 ∨ w = 3 ∨ w = 4 ∨ w = 5 ∨ w = 6 ∨ w = 7 ∨ w = 8 ∨ w = 9 ∨ w = 10 ∨ w = 11 ∨ w = 12 ∨ w = 13 ∨ w = 14 ∨ w = 15 ∨ w = 16) with rfl | rfl | rfl | rfl | rfl | rfl | rfl | rfl | rfl | rfl | rfl | rfl | rfl | rfl | rfl | rfl | rfl
  · refine v_len_0 g M P ?_
    refine ⟨fun h1 => absurd h1 (by decide), fun h1 => ?_⟩
    refine ⟨by decide, ?_⟩
    exact hP _ _ ⟨by decide, rfl⟩
  · refine v_len_1 g M P ?_
    refine ⟨fun h1 => absurd h1 (by decide), fun h1 => ?_⟩
    refine ⟨by decide, ?_⟩
    exact hP _ _ ⟨by decide, rfl⟩
  · refine v_len_2 g M P ?_
    refine ⟨fun h1 => absurd h1 (by decide), fun h1 => ?_⟩
    refine ⟨by decide, ?_⟩
    exact hP _ _ ⟨by decide, rfl⟩
  · refine v_len_3 g M P ?_
    refine ⟨fun h1 => absurd h1 (by decide), fun h1 => ?_⟩
    refine ⟨by decide, ?_⟩
    exact hP _ _ ⟨by decide, rfl⟩
  · refine v_len_4 g M P ?_
    refine ⟨fun h1 => absurd h1 (by decide), fun h1 => ?_⟩
    refine ⟨by decide, ?_⟩
    exact hP _ _ ⟨by decide, rfl⟩
  · refine v_len_5 g M P ?_
    refine ⟨fun h1 => absurd h1 (by decide), fun h1 => ?_⟩
    refine ⟨by decide, ?_⟩
    exact hP _ _ ⟨by decide, rfl⟩
  · refine v_len_6 g M P ?_
    refine ⟨fun h1 => absurd h1 (by decide), fun h1 => ?_⟩
    refine ⟨by decide, ?_⟩
    exact hP _ _ ⟨by decide, rfl⟩
  · refine v_len_7 g M P ?_
    refine ⟨fun h1 => absurd h1 (by decide), fun h1 => ?_⟩
    refine ⟨by decide, ?_⟩
    exact hP _ _ ⟨by decide, rfl⟩
  · refine v_len_8 g M P ?_
    refine ⟨fun h1 => absurd h1 (by decide), fun h1 => ?_⟩
    refine ⟨by decide, ?_⟩
    exact hP _ _ ⟨by decide, rfl⟩
  · refine v_len_9 g M P ?_
    refine ⟨fun h1 => absurd h1 (by decide), fun h1 => ?_⟩
    refine ⟨by decide, ?_⟩
    exact hP _ _ ⟨by decide, rfl⟩
  · refine v_len_10 g M P ?_
    refine ⟨fun h1 => absurd h1 (by decide), fun h1 => ?_⟩
    refine ⟨by decide, ?_⟩
    exact hP _ _ ⟨by decide, rfl⟩
  · refine v_len_11 g M P ?_
    refine ⟨fun h1 => absurd h1 (by decide), fun h1 => ?_⟩
    refine ⟨by decide, ?_⟩
    exact hP _ _ ⟨by decide, rfl⟩
  · refine v_len_12 g M P ?_
    refine ⟨fun h1 => absurd h1 (by decide), fun h1 => ?_⟩
    refine ⟨by decide, ?_⟩
    exact hP _ _ ⟨by decide, rfl⟩
  · refine v_len_13 g M P ?_
    refine ⟨fun h1 => absurd h1 (by decide), fun h1 => ?_⟩
    refine ⟨by decide, ?_⟩
    exact hP _ _ ⟨by decide, rfl⟩
  · refine v_len_14 g M P ?_
    refine ⟨fun h1 => absurd h1 (by decide), fun h1 => ?_⟩
    refine ⟨by decide, ?_⟩
    exact hP _ _ ⟨by decide, rfl⟩
  · refine v_len_15 g M P ?_
    refine ⟨fun h1 => absurd h1 (by decide), fun h1 => ?_⟩
    refine ⟨by decide, ?_⟩
    exact hP _ _ ⟨by decide, rfl⟩
  · refine v_len_16 g M P ?_
    refine ⟨fun h1 => absurd h1 (by decide), fun h1 => ?_⟩
    refine ⟨by decide, ?_⟩
    exact hP _ _ ⟨by decide, rfl⟩
theorem ok_J0_length_8abf5 : mOK yJ0_length_8abf5 cJ0_length_8abf5 1 (some .int) 2 t_J0_length_8abf5 := mOK.of f_J0_length_8abf5 (by decide) (fun _ => rfl) (fun g => mCodeOK kk_J0_length_8abf5) (fun g => mFldL fk_RJ0 rfl) (fun g idx v h => by cases h) (fun g idx v h => by cases h) (mCalL (l := l_J0_length_8abf5) (List.forall_mem_cons.mpr ⟨mSite.V (idx := 335) ok_J0_coder_7d493 (by decide) (by decide) rv_J0_coder_7d493 wc_J0_coder_7d493 wk_RJ0_335 wi_J0_coder_7d493 wl_J0_coder_7d493 wn_RJ0 wd_J0_coder_7d493, fun _ h => absurd h List.not_mem_nil⟩) (fun _ => rfl)) run_J0_length_8abf5

def pre_J0_charAt_5068e (q : Nat × Nat) (as : List mV) (_ : mM) : Prop := q.1 < 17 ∧ as = [.inr (some (1000 + q.1)), .inl (nI q.2)] ∧ q.2 < (wB q.1).length
def post_J0_charAt_5068e (q : Nat × Nat) (_ : List mV) (M : mM) (v : Int32) (M' : mM) : Prop := v = (wB q.1).getD q.2 0 ∧ M' = M
abbrev t_J0_charAt_5068e : mG → mT := mRi pre_J0_charAt_5068e post_J0_charAt_5068e
theorem mo_J0_charAt_5068e : mMn t_J0_charAt_5068e := mRi_mono
theorem rv_J0_charAt_5068e : mHasR yJ0_charAt_5068e 1 t_J0_charAt_5068e := by
  intro g as M P hT hl
  obtain ⟨q, ⟨h1, h2, -⟩, -⟩ := hT
  exact ⟨_, _, h2, is_J0 g _ (mRoS_w h1)⟩
def k_J0_charAt_5068e : List (Nat × mI) := [(0, .aload_n 0, 1, 0, 0, []),
  (1, .invokevirtual 492, 3, 0, 0, []),
  (4, .ifCond .eq 12, 3, 16, 0, []),
  (7, .aload_n 0, 1, 0, 0, []),
  (8, .getfield 9, 3, 0, 0, []),
  (11, .iload_n 1, 1, 1, 0, []),
  (12, .invokestatic 495, 3, 0, 0, []),
  (15, .ireturn, 1, 0, 0, []),
  (16, .aload_n 0, 1, 0, 0, []),
  (17, .getfield 9, 3, 0, 0, []),
  (20, .iload_n 1, 1, 1, 0, []),
  (21, .invokestatic 498, 3, 0, 0, []),
  (24, .ireturn, 1, 0, 0, [])]
theorem kk_J0_charAt_5068e : (k_J0_charAt_5068e.all fun e => mChk cJ0_charAt_5068e e.1 e.2) = true := by decide +kernel
def l_J0_charAt_5068e : List (Nat × Nat × (mG → mT)) := [(3 * 492, 0 + 1, t_J0_isLatin1_aae02), (3 * 495 + 1, 2, t_J1_charAt_3b067)]
def f_J0_charAt_5068e (g : mG) : mF := (mLk k_J0_charAt_5068e, mLk fl_RJ0, mLk (l_J0_charAt_5068e.map fun e => (e.1, e.2.1, e.2.2 g)), mLk ([] : List (Nat × mV)), mLk ([] : List (Nat × mV)), some .char)
theorem m_J0_charAt_5068e (g : mG) : mMono (f_J0_charAt_5068e g) := mMonoL (g := g) (l := l_J0_charAt_5068e) (List.forall_mem_cons.mpr ⟨mo_J0_isLatin1_aae02, List.forall_mem_cons.mpr ⟨mo_J1_charAt_3b067, fun _ h => absurd h List.not_mem_nil⟩⟩) rfl

theorem v_chr_0 (g : mG) (M : mM) (P : mP) (j : Nat)
    (h : ((1 : Int32) = 0 → ((nI 0) = 0 ∨ (nI 0) = 1) ∧ (((nI 0) = 0 → False) ∧ (¬ ((nI 0) = 0) → ((nI j) < 0 → False) ∧ (¬ ((nI j) < 0) → ((nI j) < (nI 4) → (vp_in (nI j) 4 ∧ ((((((([100, 101, 97, 108] : List Int32).getD (nI j).toNatClampNeg 0) &&& (nI 255)).toUInt32 % 65536).toInt32).toUInt32 % 65536).toInt32 = ((((([100, 101, 97, 108] : List Int32).getD (nI j).toNatClampNeg 0) &&& (nI 255)).toUInt32 % 65536).toInt32) ∧ ((((((([100, 101, 97, 108] : List Int32).getD (nI j).toNatClampNeg 0) &&& (nI 255)).toUInt32 % 65536).toInt32).toUInt32 % 65536).toInt32 = ((((([100, 101, 97, 108] : List Int32).getD (nI j).toNatClampNeg 0) &&& (nI 255)).toUInt32 % 65536).toInt32) ∧ P (some (.inl ((((([100, 101, 97, 108] : List Int32).getD (nI j).toNatClampNeg 0) &&& (nI 255)).toUInt32 % 65536).toInt32))) M)))) ∧ (¬ ((nI j) < (nI 4)) → False))))) ∧ (¬ ((1 : Int32) = 0) → (¬ (0 : Int32) = 0 → ((nI 0) = 0 ∨ (nI 0) = 1) ∧ (((nI 0) = 0 → False) ∧ (¬ ((nI 0) = 0) → ((nI j) < 0 → False) ∧ (¬ ((nI j) < 0) → ((nI j) < (nI 4) → (vp_in (nI j) 4 ∧ ((((((([100, 101, 97, 108] : List Int32).getD (nI j).toNatClampNeg 0) &&& (nI 255)).toUInt32 % 65536).toInt32).toUInt32 % 65536).toInt32 = ((((([100, 101, 97, 108] : List Int32).getD (nI j).toNatClampNeg 0) &&& (nI 255)).toUInt32 % 65536).toInt32) ∧ ((((((([100, 101, 97, 108] : List Int32).getD (nI j).toNatClampNeg 0) &&& (nI 255)).toUInt32 % 65536).toInt32).toUInt32 % 65536).toInt32 = ((((([100, 101, 97, 108] : List Int32).getD (nI j).toNatClampNeg 0) &&& (nI 255)).toUInt32 % 65536).toInt32) ∧ P (some (.inl ((((([100, 101, 97, 108] : List Int32).getD (nI j).toNatClampNeg 0) &&& (nI 255)).toUInt32 % 65536).toInt32))) M)))) ∧ (¬ ((nI j) < (nI 4)) → False))))) ∧ (¬ (¬ (0 : Int32) = 0) → ((nI 1) = 0 ∨ (nI 1) = 1) ∧ (((nI 1) = 0 → False) ∧ (¬ ((nI 1) = 0) → ((nI j) < 0 → False) ∧ (¬ ((nI j) < 0) → ((nI j) < (nI 4) → (vp_in (nI j) 4 ∧ ((((((([100, 101, 97, 108] : List Int32).getD (nI j).toNatClampNeg 0) &&& (nI 255)).toUInt32 % 65536).toInt32).toUInt32 % 65536).toInt32 = ((((([100, 101, 97, 108] : List Int32).getD (nI j).toNatClampNeg 0) &&& (nI 255)).toUInt32 % 65536).toInt32) ∧ ((((((([100, 101, 97, 108] : List Int32).getD (nI j).toNatClampNeg 0) &&& (nI 255)).toUInt32 % 65536).toInt32).toUInt32 % 65536).toInt32 = ((((([100, 101, 97, 108] : List Int32).getD (nI j).toNatClampNeg 0) &&& (nI 255)).toUInt32 % 65536).toInt32) ∧ P (some (.inl ((((([100, 101, 97, 108] : List Int32).getD (nI j).toNatClampNeg 0) &&& (nI 255)).toUInt32 % 65536).toInt32))) M)))) ∧ (¬ ((nI j) < (nI 4)) → False))))))) :
    mRun (mSx g) (f_J0_charAt_5068e g) P (0, [some (.inr (some 1000)), some (.inl (nI j))], [], M) := mRun.vc (m_J0_charAt_5068e g) [] 8 h

theorem v_chr_1 (g : mG) (M : mM) (P : mP) (j : Nat)
    (h : ((1 : Int32) = 0 → ((nI 0) = 0 ∨ (nI 0) = 1) ∧ (((nI 0) = 0 → False) ∧ (¬ ((nI 0) = 0) → ((nI j) < 0 → False) ∧ (¬ ((nI j) < 0) → ((nI j) < (nI 3) → (vp_in (nI j) 3 ∧ ((((((([98, 105, 100] : List Int32).getD (nI j).toNatClampNeg 0) &&& (nI 255)).toUInt32 % 65536).toInt32).toUInt32 % 65536).toInt32 = ((((([98, 105, 100] : List Int32).getD (nI j).toNatClampNeg 0) &&& (nI 255)).toUInt32 % 65536).toInt32) ∧ ((((((([98, 105, 100] : List Int32).getD (nI j).toNatClampNeg 0) &&& (nI 255)).toUInt32 % 65536).toInt32).toUInt32 % 65536).toInt32 = ((((([98, 105, 100] : List Int32).getD (nI j).toNatClampNeg 0) &&& (nI 255)).toUInt32 % 65536).toInt32) ∧ P (some (.inl ((((([98, 105, 100] : List Int32).getD (nI j).toNatClampNeg 0) &&& (nI 255)).toUInt32 % 65536).toInt32))) M)))) ∧ (¬ ((nI j) < (nI 3)) → False))))) ∧ (¬ ((1 : Int32) = 0) → (¬ (0 : Int32) = 0 → ((nI 0) = 0 ∨ (nI 0) = 1) ∧ (((nI 0) = 0 → False) ∧ (¬ ((nI 0) = 0) → ((nI j) < 0 → False) ∧ (¬ ((nI j) < 0) → ((nI j) < (nI 3) → (vp_in (nI j) 3 ∧ ((((((([98, 105, 100] : List Int32).getD (nI j).toNatClampNeg 0) &&& (nI 255)).toUInt32 % 65536).toInt32).toUInt32 % 65536).toInt32 = ((((([98, 105, 100] : List Int32).getD (nI j).toNatClampNeg 0) &&& (nI 255)).toUInt32 % 65536).toInt32) ∧ ((((((([98, 105, 100] : List Int32).getD (nI j).toNatClampNeg 0) &&& (nI 255)).toUInt32 % 65536).toInt32).toUInt32 % 65536).toInt32 = ((((([98, 105, 100] : List Int32).getD (nI j).toNatClampNeg 0) &&& (nI 255)).toUInt32 % 65536).toInt32) ∧ P (some (.inl ((((([98, 105, 100] : List Int32).getD (nI j).toNatClampNeg 0) &&& (nI 255)).toUInt32 % 65536).toInt32))) M)))) ∧ (¬ ((nI j) < (nI 3)) → False))))) ∧ (¬ (¬ (0 : Int32) = 0) → ((nI 1) = 0 ∨ (nI 1) = 1) ∧ (((nI 1) = 0 → False) ∧ (¬ ((nI 1) = 0) → ((nI j) < 0 → False) ∧ (¬ ((nI j) < 0) → ((nI j) < (nI 3) → (vp_in (nI j) 3 ∧ ((((((([98, 105, 100] : List Int32).getD (nI j).toNatClampNeg 0) &&& (nI 255)).toUInt32 % 65536).toInt32).toUInt32 % 65536).toInt32 = ((((([98, 105, 100] : List Int32).getD (nI j).toNatClampNeg 0) &&& (nI 255)).toUInt32 % 65536).toInt32) ∧ ((((((([98, 105, 100] : List Int32).getD (nI j).toNatClampNeg 0) &&& (nI 255)).toUInt32 % 65536).toInt32).toUInt32 % 65536).toInt32 = ((((([98, 105, 100] : List Int32).getD (nI j).toNatClampNeg 0) &&& (nI 255)).toUInt32 % 65536).toInt32) ∧ P (some (.inl ((((([98, 105, 100] : List Int32).getD (nI j).toNatClampNeg 0) &&& (nI 255)).toUInt32 % 65536).toInt32))) M)))) ∧ (¬ ((nI j) < (nI 3)) → False))))))) :
    mRun (mSx g) (f_J0_charAt_5068e g) P (0, [some (.inr (some 1001)), some (.inl (nI j))], [], M) := mRun.vc (m_J0_charAt_5068e g) [] 8 h

theorem v_chr_2 (g : mG) (M : mM) (P : mP) (j : Nat)
    (h : ((1 : Int32) = 0 → ((nI 0) = 0 ∨ (nI 0) = 1) ∧ (((nI 0) = 0 → False) ∧ (¬ ((nI 0) = 0) → ((nI j) < 0 → False) ∧ (¬ ((nI j) < 0) → ((nI j) < (nI 4) → (vp_in (nI j) 4 ∧ ((((((([112, 97, 115, 115] : List Int32).getD (nI j).toNatClampNeg 0) &&& (nI 255)).toUInt32 % 65536).toInt32).toUInt32 % 65536).toInt32 = ((((([112, 97, 115, 115] : List Int32).getD (nI j).toNatClampNeg 0) &&& (nI 255)).toUInt32 % 65536).toInt32) ∧ ((((((([112, 97, 115, 115] : List Int32).getD (nI j).toNatClampNeg 0) &&& (nI 255)).toUInt32 % 65536).toInt32).toUInt32 % 65536).toInt32 = ((((([112, 97, 115, 115] : List Int32).getD (nI j).toNatClampNeg 0) &&& (nI 255)).toUInt32 % 65536).toInt32) ∧ P (some (.inl ((((([112, 97, 115, 115] : List Int32).getD (nI j).toNatClampNeg 0) &&& (nI 255)).toUInt32 % 65536).toInt32))) M)))) ∧ (¬ ((nI j) < (nI 4)) → False))))) ∧ (¬ ((1 : Int32) = 0) → (¬ (0 : Int32) = 0 → ((nI 0) = 0 ∨ (nI 0) = 1) ∧ (((nI 0) = 0 → False) ∧ (¬ ((nI 0) = 0) → ((nI j) < 0 → False) ∧ (¬ ((nI j) < 0) → ((nI j) < (nI 4) → (vp_in (nI j) 4 ∧ ((((((([112, 97, 115, 115] : List Int32).getD (nI j).toNatClampNeg 0) &&& (nI 255)).toUInt32 % 65536).toInt32).toUInt32 % 65536).toInt32 = ((((([112, 97, 115, 115] : List Int32).getD (nI j).toNatClampNeg 0) &&& (nI 255)).toUInt32 % 65536).toInt32) ∧ ((((((([112, 97, 115, 115] : List Int32).getD (nI j).toNatClampNeg 0) &&& (nI 255)).toUInt32 % 65536).toInt32).toUInt32 % 65536).toInt32 = ((((([112, 97, 115, 115] : List Int32).getD (nI j).toNatClampNeg 0) &&& (nI 255)).toUInt32 % 65536).toInt32) ∧ P (some (.inl ((((([112, 97, 115, 115] : List Int32).getD (nI j).toNatClampNeg 0) &&& (nI 255)).toUInt32 % 65536).toInt32))) M)))) ∧ (¬ ((nI j) < (nI 4)) → False))))) ∧ (¬ (¬ (0 : Int32) = 0) → ((nI 1) = 0 ∨ (nI 1) = 1) ∧ (((nI 1) = 0 → False) ∧ (¬ ((nI 1) = 0) → ((nI j) < 0 → False) ∧ (¬ ((nI j) < 0) → ((nI j) < (nI 4) → (vp_in (nI j) 4 ∧ ((((((([112, 97, 115, 115] : List Int32).getD (nI j).toNatClampNeg 0) &&& (nI 255)).toUInt32 % 65536).toInt32).toUInt32 % 65536).toInt32 = ((((([112, 97, 115, 115] : List Int32).getD (nI j).toNatClampNeg 0) &&& (nI 255)).toUInt32 % 65536).toInt32) ∧ ((((((([112, 97, 115, 115] : List Int32).getD (nI j).toNatClampNeg 0) &&& (nI 255)).toUInt32 % 65536).toInt32).toUInt32 % 65536).toInt32 = ((((([112, 97, 115, 115] : List Int32).getD (nI j).toNatClampNeg 0) &&& (nI 255)).toUInt32 % 65536).toInt32) ∧ P (some (.inl ((((([112, 97, 115, 115] : List Int32).getD (nI j).toNatClampNeg 0) &&& (nI 255)).toUInt32 % 65536).toInt32))) M)))) ∧ (¬ ((nI j) < (nI 4)) → False))))))) :
    mRun (mSx g) (f_J0_charAt_5068e g) P (0, [some (.inr (some 1002)), some (.inl (nI j))], [], M) := mRun.vc (m_J0_charAt_5068e g) [] 8 h

theorem v_chr_3 (g : mG) (M : mM) (P : mP) (j : Nat)
    (h : ((1 : Int32) = 0 → ((nI 0) = 0 ∨ (nI 0) = 1) ∧ (((nI 0) = 0 → False) ∧ (¬ ((nI 0) = 0) → ((nI j) < 0 → False) ∧ (¬ ((nI j) < 0) → ((nI j) < (nI 6) → (vp_in (nI j) 6 ∧ ((((((([100, 111, 117, 98, 108, 101] : List Int32).getD (nI j).toNatClampNeg 0) &&& (nI 255)).toUInt32 % 65536).toInt32).toUInt32 % 65536).toInt32 = ((((([100, 111, 117, 98, 108, 101] : List Int32).getD (nI j).toNatClampNeg 0) &&& (nI 255)).toUInt32 % 65536).toInt32) ∧ ((((((([100, 111, 117, 98, 108, 101] : List Int32).getD (nI j).toNatClampNeg 0) &&& (nI 255)).toUInt32 % 65536).toInt32).toUInt32 % 65536).toInt32 = ((((([100, 111, 117, 98, 108, 101] : List Int32).getD (nI j).toNatClampNeg 0) &&& (nI 255)).toUInt32 % 65536).toInt32) ∧ P (some (.inl ((((([100, 111, 117, 98, 108, 101] : List Int32).getD (nI j).toNatClampNeg 0) &&& (nI 255)).toUInt32 % 65536).toInt32))) M)))) ∧ (¬ ((nI j) < (nI 6)) → False))))) ∧ (¬ ((1 : Int32) = 0) → (¬ (0 : Int32) = 0 → ((nI 0) = 0 ∨ (nI 0) = 1) ∧ (((nI 0) = 0 → False) ∧ (¬ ((nI 0) = 0) → ((nI j) < 0 → False) ∧ (¬ ((nI j) < 0) → ((nI j) < (nI 6) → (vp_in (nI j) 6 ∧ ((((((([100, 111, 117, 98, 108, 101] : List Int32).getD (nI j).toNatClampNeg 0) &&& (nI 255)).toUInt32 % 65536).toInt32).toUInt32 % 65536).toInt32 = ((((([100, 111, 117, 98, 108, 101] : List Int32).getD (nI j).toNatClampNeg 0) &&& (nI 255)).toUInt32 % 65536).toInt32) ∧ ((((((([100, 111, 117, 98, 108, 101] : List Int32).getD (nI j).toNatClampNeg 0) &&& (nI 255)).toUInt32 % 65536).toInt32).toUInt32 % 65536).toInt32 = ((((([100, 111, 117, 98, 108, 101] : List Int32).getD (nI j).toNatClampNeg 0) &&& (nI 255)).toUInt32 % 65536).toInt32) ∧ P (some (.inl ((((([100, 111, 117, 98, 108, 101] : List Int32).getD (nI j).toNatClampNeg 0) &&& (nI 255)).toUInt32 % 65536).toInt32))) M)))) ∧ (¬ ((nI j) < (nI 6)) → False))))) ∧ (¬ (¬ (0 : Int32) = 0) → ((nI 1) = 0 ∨ (nI 1) = 1) ∧ (((nI 1) = 0 → False) ∧ (¬ ((nI 1) = 0) → ((nI j) < 0 → False) ∧ (¬ ((nI j) < 0) → ((nI j) < (nI 6) → (vp_in (nI j) 6 ∧ ((((((([100, 111, 117, 98, 108, 101] : List Int32).getD (nI j).toNatClampNeg 0) &&& (nI 255)).toUInt32 % 65536).toInt32).toUInt32 % 65536).toInt32 = ((((([100, 111, 117, 98, 108, 101] : List Int32).getD (nI j).toNatClampNeg 0) &&& (nI 255)).toUInt32 % 65536).toInt32) ∧ ((((((([100, 111, 117, 98, 108, 101] : List Int32).getD (nI j).toNatClampNeg 0) &&& (nI 255)).toUInt32 % 65536).toInt32).toUInt32 % 65536).toInt32 = ((((([100, 111, 117, 98, 108, 101] : List Int32).getD (nI j).toNatClampNeg 0) &&& (nI 255)).toUInt32 % 65536).toInt32) ∧ P (some (.inl ((((([100, 111, 117, 98, 108, 101] : List Int32).getD (nI j).toNatClampNeg 0) &&& (nI 255)).toUInt32 % 65536).toInt32))) M)))) ∧ (¬ ((nI j) < (nI 6)) → False))))))) :
    mRun (mSx g) (f_J0_charAt_5068e g) P (0, [some (.inr (some 1003)), some (.inl (nI j))], [], M) := mRun.vc (m_J0_charAt_5068e g) [] 8 h

theorem v_chr_4 (g : mG) (M : mM) (P : mP) (j : Nat)
    (h : ((1 : Int32) = 0 → ((nI 0) = 0 ∨ (nI 0) = 1) ∧ (((nI 0) = 0 → False) ∧ (¬ ((nI 0) = 0) → ((nI j) < 0 → False) ∧ (¬ ((nI j) < 0) → ((nI j) < (nI 8) → (vp_in (nI j) 8 ∧ ((((((([114, 101, 100, 111, 117, 98, 108, 101] : List Int32).getD (nI j).toNatClampNeg 0) &&& (nI 255)).toUInt32 % 65536).toInt32).toUInt32 % 65536).toInt32 = ((((([114, 101, 100, 111, 117, 98, 108, 101] : List Int32).getD (nI j).toNatClampNeg 0) &&& (nI 255)).toUInt32 % 65536).toInt32) ∧ ((((((([114, 101, 100, 111, 117, 98, 108, 101] : List Int32).getD (nI j).toNatClampNeg 0) &&& (nI 255)).toUInt32 % 65536).toInt32).toUInt32 % 65536).toInt32 = ((((([114, 101, 100, 111, 117, 98, 108, 101] : List Int32).getD (nI j).toNatClampNeg 0) &&& (nI 255)).toUInt32 % 65536).toInt32) ∧ P (some (.inl ((((([114, 101, 100, 111, 117, 98, 108, 101] : List Int32).getD (nI j).toNatClampNeg 0) &&& (nI 255)).toUInt32 % 65536).toInt32))) M)))) ∧ (¬ ((nI j) < (nI 8)) → False))))) ∧ (¬ ((1 : Int32) = 0) → (¬ (0 : Int32) = 0 → ((nI 0) = 0 ∨ (nI 0) = 1) ∧ (((nI 0) = 0 → False) ∧ (¬ ((nI 0) = 0) → ((nI j) < 0 → False) ∧ (¬ ((nI j) < 0) → ((nI j) < (nI 8) → (vp_in (nI j) 8 ∧ ((((((([114, 101, 100, 111, 117, 98, 108, 101] : List Int32).getD (nI j).toNatClampNeg 0) &&& (nI 255)).toUInt32 % 65536).toInt32).toUInt32 % 65536).toInt32 = ((((([114, 101, 100, 111, 117, 98, 108, 101] : List Int32).getD (nI j).toNatClampNeg 0) &&& (nI 255)).toUInt32 % 65536).toInt32) ∧ ((((((([114, 101, 100, 111, 117, 98, 108, 101] : List Int32).getD (nI j).toNatClampNeg 0) &&& (nI 255)).toUInt32 % 65536).toInt32).toUInt32 % 65536).toInt32 = ((((([114, 101, 100, 111, 117, 98, 108, 101] : List Int32).getD (nI j).toNatClampNeg 0) &&& (nI 255)).toUInt32 % 65536).toInt32) ∧ P (some (.inl ((((([114, 101, 100, 111, 117, 98, 108, 101] : List Int32).getD (nI j).toNatClampNeg 0) &&& (nI 255)).toUInt32 % 65536).toInt32))) M)))) ∧ (¬ ((nI j) < (nI 8)) → False))))) ∧ (¬ (¬ (0 : Int32) = 0) → ((nI 1) = 0 ∨ (nI 1) = 1) ∧ (((nI 1) = 0 → False) ∧ (¬ ((nI 1) = 0) → ((nI j) < 0 → False) ∧ (¬ ((nI j) < 0) → ((nI j) < (nI 8) → (vp_in (nI j) 8 ∧ ((((((([114, 101, 100, 111, 117, 98, 108, 101] : List Int32).getD (nI j).toNatClampNeg 0) &&& (nI 255)).toUInt32 % 65536).toInt32).toUInt32 % 65536).toInt32 = ((((([114, 101, 100, 111, 117, 98, 108, 101] : List Int32).getD (nI j).toNatClampNeg 0) &&& (nI 255)).toUInt32 % 65536).toInt32) ∧ ((((((([114, 101, 100, 111, 117, 98, 108, 101] : List Int32).getD (nI j).toNatClampNeg 0) &&& (nI 255)).toUInt32 % 65536).toInt32).toUInt32 % 65536).toInt32 = ((((([114, 101, 100, 111, 117, 98, 108, 101] : List Int32).getD (nI j).toNatClampNeg 0) &&& (nI 255)).toUInt32 % 65536).toInt32) ∧ P (some (.inl ((((([114, 101, 100, 111, 117, 98, 108, 101] : List Int32).getD (nI j).toNatClampNeg 0) &&& (nI 255)).toUInt32 % 65536).toInt32))) M)))) ∧ (¬ ((nI j) < (nI 8)) → False))))))) :
    mRun (mSx g) (f_J0_charAt_5068e g) P (0, [some (.inr (some 1004)), some (.inl (nI j))], [], M) := mRun.vc (m_J0_charAt_5068e g) [] 8 h

theorem v_chr_5 (g : mG) (M : mM) (P : mP) (j : Nat)
    (h : ((1 : Int32) = 0 → ((nI 0) = 0 ∨ (nI 0) = 1) ∧ (((nI 0) = 0 → False) ∧ (¬ ((nI 0) = 0) → ((nI j) < 0 → False) ∧ (¬ ((nI j) < 0) → ((nI j) < (nI 4) → (vp_in (nI j) 4 ∧ ((((((([112, 108, 97, 121] : List Int32).getD (nI j).toNatClampNeg 0) &&& (nI 255)).toUInt32 % 65536).toInt32).toUInt32 % 65536).toInt32 = ((((([112, 108, 97, 121] : List Int32).getD (nI j).toNatClampNeg 0) &&& (nI 255)).toUInt32 % 65536).toInt32) ∧ ((((((([112, 108, 97, 121] : List Int32).getD (nI j).toNatClampNeg 0) &&& (nI 255)).toUInt32 % 65536).toInt32).toUInt32 % 65536).toInt32 = ((((([112, 108, 97, 121] : List Int32).getD (nI j).toNatClampNeg 0) &&& (nI 255)).toUInt32 % 65536).toInt32) ∧ P (some (.inl ((((([112, 108, 97, 121] : List Int32).getD (nI j).toNatClampNeg 0) &&& (nI 255)).toUInt32 % 65536).toInt32))) M)))) ∧ (¬ ((nI j) < (nI 4)) → False))))) ∧ (¬ ((1 : Int32) = 0) → (¬ (0 : Int32) = 0 → ((nI 0) = 0 ∨ (nI 0) = 1) ∧ (((nI 0) = 0 → False) ∧ (¬ ((nI 0) = 0) → ((nI j) < 0 → False) ∧ (¬ ((nI j) < 0) → ((nI j) < (nI 4) → (vp_in (nI j) 4 ∧ ((((((([112, 108, 97, 121] : List Int32).getD (nI j).toNatClampNeg 0) &&& (nI 255)).toUInt32 % 65536).toInt32).toUInt32 % 65536).toInt32 = ((((([112, 108, 97, 121] : List Int32).getD (nI j).toNatClampNeg 0) &&& (nI 255)).toUInt32 % 65536).toInt32) ∧ ((((((([112, 108, 97, 121] : List Int32).getD (nI j).toNatClampNeg 0) &&& (nI 255)).toUInt32 % 65536).toInt32).toUInt32 % 65536).toInt32 = ((((([112, 108, 97, 121] : List Int32).getD (nI j).toNatClampNeg 0) &&& (nI 255)).toUInt32 % 65536).toInt32) ∧ P (some (.inl ((((([112, 108, 97, 121] : List Int32).getD (nI j).toNatClampNeg 0) &&& (nI 255)).toUInt32 % 65536).toInt32))) M)))) ∧ (¬ ((nI j) < (nI 4)) → False))))) ∧ (¬ (¬ (0 : Int32) = 0) → ((nI 1) = 0 ∨ (nI 1) = 1) ∧ (((nI 1) = 0 → False) ∧ (¬ ((nI 1) = 0) → ((nI j) < 0 → False) ∧ (¬ ((nI j) < 0) → ((nI j) < (nI 4) → (vp_in (nI j) 4 ∧ ((((((([112, 108, 97, 121] : List Int32).getD (nI j).toNatClampNeg 0) &&& (nI 255)).toUInt32 % 65536).toInt32).toUInt32 % 65536).toInt32 = ((((([112, 108, 97, 121] : List Int32).getD (nI j).toNatClampNeg 0) &&& (nI 255)).toUInt32 % 65536).toInt32) ∧ ((((((([112, 108, 97, 121] : List Int32).getD (nI j).toNatClampNeg 0) &&& (nI 255)).toUInt32 % 65536).toInt32).toUInt32 % 65536).toInt32 = ((((([112, 108, 97, 121] : List Int32).getD (nI j).toNatClampNeg 0) &&& (nI 255)).toUInt32 % 65536).toInt32) ∧ P (some (.inl ((((([112, 108, 97, 121] : List Int32).getD (nI j).toNatClampNeg 0) &&& (nI 255)).toUInt32 % 65536).toInt32))) M)))) ∧ (¬ ((nI j) < (nI 4)) → False))))))) :
    mRun (mSx g) (f_J0_charAt_5068e g) P (0, [some (.inr (some 1005)), some (.inl (nI j))], [], M) := mRun.vc (m_J0_charAt_5068e g) [] 8 h

theorem v_chr_6 (g : mG) (M : mM) (P : mP) (j : Nat)
    (h : ((1 : Int32) = 0 → ((nI 0) = 0 ∨ (nI 0) = 1) ∧ (((nI 0) = 0 → False) ∧ (¬ ((nI 0) = 0) → ((nI j) < 0 → False) ∧ (¬ ((nI j) < 0) → ((nI j) < (nI 5) → (vp_in (nI j) 5 ∧ ((((((([99, 108, 97, 105, 109] : List Int32).getD (nI j).toNatClampNeg 0) &&& (nI 255)).toUInt32 % 65536).toInt32).toUInt32 % 65536).toInt32 = ((((([99, 108, 97, 105, 109] : List Int32).getD (nI j).toNatClampNeg 0) &&& (nI 255)).toUInt32 % 65536).toInt32) ∧ ((((((([99, 108, 97, 105, 109] : List Int32).getD (nI j).toNatClampNeg 0) &&& (nI 255)).toUInt32 % 65536).toInt32).toUInt32 % 65536).toInt32 = ((((([99, 108, 97, 105, 109] : List Int32).getD (nI j).toNatClampNeg 0) &&& (nI 255)).toUInt32 % 65536).toInt32) ∧ P (some (.inl ((((([99, 108, 97, 105, 109] : List Int32).getD (nI j).toNatClampNeg 0) &&& (nI 255)).toUInt32 % 65536).toInt32))) M)))) ∧ (¬ ((nI j) < (nI 5)) → False))))) ∧ (¬ ((1 : Int32) = 0) → (¬ (0 : Int32) = 0 → ((nI 0) = 0 ∨ (nI 0) = 1) ∧ (((nI 0) = 0 → False) ∧ (¬ ((nI 0) = 0) → ((nI j) < 0 → False) ∧ (¬ ((nI j) < 0) → ((nI j) < (nI 5) → (vp_in (nI j) 5 ∧ ((((((([99, 108, 97, 105, 109] : List Int32).getD (nI j).toNatClampNeg 0) &&& (nI 255)).toUInt32 % 65536).toInt32).toUInt32 % 65536).toInt32 = ((((([99, 108, 97, 105, 109] : List Int32).getD (nI j).toNatClampNeg 0) &&& (nI 255)).toUInt32 % 65536).toInt32) ∧ ((((((([99, 108, 97, 105, 109] : List Int32).getD (nI j).toNatClampNeg 0) &&& (nI 255)).toUInt32 % 65536).toInt32).toUInt32 % 65536).toInt32 = ((((([99, 108, 97, 105, 109] : List Int32).getD (nI j).toNatClampNeg 0) &&& (nI 255)).toUInt32 % 65536).toInt32) ∧ P (some (.inl ((((([99, 108, 97, 105, 109] : List Int32).getD (nI j).toNatClampNeg 0) &&& (nI 255)).toUInt32 % 65536).toInt32))) M)))) ∧ (¬ ((nI j) < (nI 5)) → False))))) ∧ (¬ (¬ (0 : Int32) = 0) → ((nI 1) = 0 ∨ (nI 1) = 1) ∧ (((nI 1) = 0 → False) ∧ (¬ ((nI 1) = 0) → ((nI j) < 0 → False) ∧ (¬ ((nI j) < 0) → ((nI j) < (nI 5) → (vp_in (nI j) 5 ∧ ((((((([99, 108, 97, 105, 109] : List Int32).getD (nI j).toNatClampNeg 0) &&& (nI 255)).toUInt32 % 65536).toInt32).toUInt32 % 65536).toInt32 = ((((([99, 108, 97, 105, 109] : List Int32).getD (nI j).toNatClampNeg 0) &&& (nI 255)).toUInt32 % 65536).toInt32) ∧ ((((((([99, 108, 97, 105, 109] : List Int32).getD (nI j).toNatClampNeg 0) &&& (nI 255)).toUInt32 % 65536).toInt32).toUInt32 % 65536).toInt32 = ((((([99, 108, 97, 105, 109] : List Int32).getD (nI j).toNatClampNeg 0) &&& (nI 255)).toUInt32 % 65536).toInt32) ∧ P (some (.inl ((((([99, 108, 97, 105, 109] : List Int32).getD (nI j).toNatClampNeg 0) &&& (nI 255)).toUInt32 % 65536).toInt32))) M)))) ∧ (¬ ((nI j) < (nI 5)) → False))))))) :
    mRun (mSx g) (f_J0_charAt_5068e g) P (0, [some (.inr (some 1006)), some (.inl (nI j))], [], M) := mRun.vc (m_J0_charAt_5068e g) [] 8 h

theorem v_chr_7 (g : mG) (M : mM) (P : mP) (j : Nat)
    (h : ((1 : Int32) = 0 → ((nI 0) = 0 ∨ (nI 0) = 1) ∧ (((nI 0) = 0 → False) ∧ (¬ ((nI 0) = 0) → ((nI j) < 0 → False) ∧ (¬ ((nI j) < 0) → ((nI j) < (nI 4) → (vp_in (nI j) 4 ∧ ((((((([114, 97, 110, 107] : List Int32).getD (nI j).toNatClampNeg 0) &&& (nI 255)).toUInt32 % 65536).toInt32).toUInt32 % 65536).toInt32 = ((((([114, 97, 110, 107] : List Int32).getD (nI j).toNatClampNeg 0) &&& (nI 255)).toUInt32 % 65536).toInt32) ∧ ((((((([114, 97, 110, 107] : List Int32).getD (nI j).toNatClampNeg 0) &&& (nI 255)).toUInt32 % 65536).toInt32).toUInt32 % 65536).toInt32 = ((((([114, 97, 110, 107] : List Int32).getD (nI j).toNatClampNeg 0) &&& (nI 255)).toUInt32 % 65536).toInt32) ∧ P (some (.inl ((((([114, 97, 110, 107] : List Int32).getD (nI j).toNatClampNeg 0) &&& (nI 255)).toUInt32 % 65536).toInt32))) M)))) ∧ (¬ ((nI j) < (nI 4)) → False))))) ∧ (¬ ((1 : Int32) = 0) → (¬ (0 : Int32) = 0 → ((nI 0) = 0 ∨ (nI 0) = 1) ∧ (((nI 0) = 0 → False) ∧ (¬ ((nI 0) = 0) → ((nI j) < 0 → False) ∧ (¬ ((nI j) < 0) → ((nI j) < (nI 4) → (vp_in (nI j) 4 ∧ ((((((([114, 97, 110, 107] : List Int32).getD (nI j).toNatClampNeg 0) &&& (nI 255)).toUInt32 % 65536).toInt32).toUInt32 % 65536).toInt32 = ((((([114, 97, 110, 107] : List Int32).getD (nI j).toNatClampNeg 0) &&& (nI 255)).toUInt32 % 65536).toInt32) ∧ ((((((([114, 97, 110, 107] : List Int32).getD (nI j).toNatClampNeg 0) &&& (nI 255)).toUInt32 % 65536).toInt32).toUInt32 % 65536).toInt32 = ((((([114, 97, 110, 107] : List Int32).getD (nI j).toNatClampNeg 0) &&& (nI 255)).toUInt32 % 65536).toInt32) ∧ P (some (.inl ((((([114, 97, 110, 107] : List Int32).getD (nI j).toNatClampNeg 0) &&& (nI 255)).toUInt32 % 65536).toInt32))) M)))) ∧ (¬ ((nI j) < (nI 4)) → False))))) ∧ (¬ (¬ (0 : Int32) = 0) → ((nI 1) = 0 ∨ (nI 1) = 1) ∧ (((nI 1) = 0 → False) ∧ (¬ ((nI 1) = 0) → ((nI j) < 0 → False) ∧ (¬ ((nI j) < 0) → ((nI j) < (nI 4) → (vp_in (nI j) 4 ∧ ((((((([114, 97, 110, 107] : List Int32).getD (nI j).toNatClampNeg 0) &&& (nI 255)).toUInt32 % 65536).toInt32).toUInt32 % 65536).toInt32 = ((((([114, 97, 110, 107] : List Int32).getD (nI j).toNatClampNeg 0) &&& (nI 255)).toUInt32 % 65536).toInt32) ∧ ((((((([114, 97, 110, 107] : List Int32).getD (nI j).toNatClampNeg 0) &&& (nI 255)).toUInt32 % 65536).toInt32).toUInt32 % 65536).toInt32 = ((((([114, 97, 110, 107] : List Int32).getD (nI j).toNatClampNeg 0) &&& (nI 255)).toUInt32 % 65536).toInt32) ∧ P (some (.inl ((((([114, 97, 110, 107] : List Int32).getD (nI j).toNatClampNeg 0) &&& (nI 255)).toUInt32 % 65536).toInt32))) M)))) ∧ (¬ ((nI j) < (nI 4)) → False))))))) :
    mRun (mSx g) (f_J0_charAt_5068e g) P (0, [some (.inr (some 1007)), some (.inl (nI j))], [], M) := mRun.vc (m_J0_charAt_5068e g) [] 8 h

theorem v_chr_8 (g : mG) (M : mM) (P : mP) (j : Nat)
    (h : ((1 : Int32) = 0 → ((nI 0) = 0 ∨ (nI 0) = 1) ∧ (((nI 0) = 0 → False) ∧ (¬ ((nI 0) = 0) → ((nI j) < 0 → False) ∧ (¬ ((nI j) < 0) → ((nI j) < (nI 4) → (vp_in (nI j) 4 ∧ ((((((([114, 117, 108, 101] : List Int32).getD (nI j).toNatClampNeg 0) &&& (nI 255)).toUInt32 % 65536).toInt32).toUInt32 % 65536).toInt32 = ((((([114, 117, 108, 101] : List Int32).getD (nI j).toNatClampNeg 0) &&& (nI 255)).toUInt32 % 65536).toInt32) ∧ ((((((([114, 117, 108, 101] : List Int32).getD (nI j).toNatClampNeg 0) &&& (nI 255)).toUInt32 % 65536).toInt32).toUInt32 % 65536).toInt32 = ((((([114, 117, 108, 101] : List Int32).getD (nI j).toNatClampNeg 0) &&& (nI 255)).toUInt32 % 65536).toInt32) ∧ P (some (.inl ((((([114, 117, 108, 101] : List Int32).getD (nI j).toNatClampNeg 0) &&& (nI 255)).toUInt32 % 65536).toInt32))) M)))) ∧ (¬ ((nI j) < (nI 4)) → False))))) ∧ (¬ ((1 : Int32) = 0) → (¬ (0 : Int32) = 0 → ((nI 0) = 0 ∨ (nI 0) = 1) ∧ (((nI 0) = 0 → False) ∧ (¬ ((nI 0) = 0) → ((nI j) < 0 → False) ∧ (¬ ((nI j) < 0) → ((nI j) < (nI 4) → (vp_in (nI j) 4 ∧ ((((((([114, 117, 108, 101] : List Int32).getD (nI j).toNatClampNeg 0) &&& (nI 255)).toUInt32 % 65536).toInt32).toUInt32 % 65536).toInt32 = ((((([114, 117, 108, 101] : List Int32).getD (nI j).toNatClampNeg 0) &&& (nI 255)).toUInt32 % 65536).toInt32) ∧ ((((((([114, 117, 108, 101] : List Int32).getD (nI j).toNatClampNeg 0) &&& (nI 255)).toUInt32 % 65536).toInt32).toUInt32 % 65536).toInt32 = ((((([114, 117, 108, 101] : List Int32).getD (nI j).toNatClampNeg 0) &&& (nI 255)).toUInt32 % 65536).toInt32) ∧ P (some (.inl ((((([114, 117, 108, 101] : List Int32).getD (nI j).toNatClampNeg 0) &&& (nI 255)).toUInt32 % 65536).toInt32))) M)))) ∧ (¬ ((nI j) < (nI 4)) → False))))) ∧ (¬ (¬ (0 : Int32) = 0) → ((nI 1) = 0 ∨ (nI 1) = 1) ∧ (((nI 1) = 0 → False) ∧ (¬ ((nI 1) = 0) → ((nI j) < 0 → False) ∧ (¬ ((nI j) < 0) → ((nI j) < (nI 4) → (vp_in (nI j) 4 ∧ ((((((([114, 117, 108, 101] : List Int32).getD (nI j).toNatClampNeg 0) &&& (nI 255)).toUInt32 % 65536).toInt32).toUInt32 % 65536).toInt32 = ((((([114, 117, 108, 101] : List Int32).getD (nI j).toNatClampNeg 0) &&& (nI 255)).toUInt32 % 65536).toInt32) ∧ ((((((([114, 117, 108, 101] : List Int32).getD (nI j).toNatClampNeg 0) &&& (nI 255)).toUInt32 % 65536).toInt32).toUInt32 % 65536).toInt32 = ((((([114, 117, 108, 101] : List Int32).getD (nI j).toNatClampNeg 0) &&& (nI 255)).toUInt32 % 65536).toInt32) ∧ P (some (.inl ((((([114, 117, 108, 101] : List Int32).getD (nI j).toNatClampNeg 0) &&& (nI 255)).toUInt32 % 65536).toInt32))) M)))) ∧ (¬ ((nI j) < (nI 4)) → False))))))) :
    mRun (mSx g) (f_J0_charAt_5068e g) P (0, [some (.inr (some 1008)), some (.inl (nI j))], [], M) := mRun.vc (m_J0_charAt_5068e g) [] 8 h

theorem v_chr_9 (g : mG) (M : mM) (P : mP) (j : Nat)
    (h : ((1 : Int32) = 0 → ((nI 0) = 0 ∨ (nI 0) = 1) ∧ (((nI 0) = 0 → False) ∧ (¬ ((nI 0) = 0) → ((nI j) < 0 → False) ∧ (¬ ((nI j) < 0) → ((nI j) < (nI 0) → (vp_in (nI j) 0 ∧ ((((((([] : List Int32).getD (nI j).toNatClampNeg 0) &&& (nI 255)).toUInt32 % 65536).toInt32).toUInt32 % 65536).toInt32 = ((((([] : List Int32).getD (nI j).toNatClampNeg 0) &&& (nI 255)).toUInt32 % 65536).toInt32) ∧ ((((((([] : List Int32).getD (nI j).toNatClampNeg 0) &&& (nI 255)).toUInt32 % 65536).toInt32).toUInt32 % 65536).toInt32 = ((((([] : List Int32).getD (nI j).toNatClampNeg 0) &&& (nI 255)).toUInt32 % 65536).toInt32) ∧ P (some (.inl ((((([] : List Int32).getD (nI j).toNatClampNeg 0) &&& (nI 255)).toUInt32 % 65536).toInt32))) M)))) ∧ (¬ ((nI j) < (nI 0)) → False))))) ∧ (¬ ((1 : Int32) = 0) → (¬ (0 : Int32) = 0 → ((nI 0) = 0 ∨ (nI 0) = 1) ∧ (((nI 0) = 0 → False) ∧ (¬ ((nI 0) = 0) → ((nI j) < 0 → False) ∧ (¬ ((nI j) < 0) → ((nI j) < (nI 0) → (vp_in (nI j) 0 ∧ ((((((([] : List Int32).getD (nI j).toNatClampNeg 0) &&& (nI 255)).toUInt32 % 65536).toInt32).toUInt32 % 65536).toInt32 = ((((([] : List Int32).getD (nI j).toNatClampNeg 0) &&& (nI 255)).toUInt32 % 65536).toInt32) ∧ ((((((([] : List Int32).getD (nI j).toNatClampNeg 0) &&& (nI 255)).toUInt32 % 65536).toInt32).toUInt32 % 65536).toInt32 = ((((([] : List Int32).getD (nI j).toNatClampNeg 0) &&& (nI 255)).toUInt32 % 65536).toInt32) ∧ P (some (.inl ((((([] : List Int32).getD (nI j).toNatClampNeg 0) &&& (nI 255)).toUInt32 % 65536).toInt32))) M)))) ∧ (¬ ((nI j) < (nI 0)) → False))))) ∧ (¬ (¬ (0 : Int32) = 0) → ((nI 1) = 0 ∨ (nI 1) = 1) ∧ (((nI 1) = 0 → False) ∧ (¬ ((nI 1) = 0) → ((nI j) < 0 → False) ∧ (¬ ((nI j) < 0) → ((nI j) < (nI 0) → (vp_in (nI j) 0 ∧ ((((((([] : List Int32).getD (nI j).toNatClampNeg 0) &&& (nI 255)).toUInt32 % 65536).toInt32).toUInt32 % 65536).toInt32 = ((((([] : List Int32).getD (nI j).toNatClampNeg 0) &&& (nI 255)).toUInt32 % 65536).toInt32) ∧ ((((((([] : List Int32).getD (nI j).toNatClampNeg 0) &&& (nI 255)).toUInt32 % 65536).toInt32).toUInt32 % 65536).toInt32 = ((((([] : List Int32).getD (nI j).toNatClampNeg 0) &&& (nI 255)).toUInt32 % 65536).toInt32) ∧ P (some (.inl ((((([] : List Int32).getD (nI j).toNatClampNeg 0) &&& (nI 255)).toUInt32 % 65536).toInt32))) M)))) ∧ (¬ ((nI j) < (nI 0)) → False))))))) :
    mRun (mSx g) (f_J0_charAt_5068e g) P (0, [some (.inr (some 1009)), some (.inl (nI j))], [], M) := mRun.vc (m_J0_charAt_5068e g) [] 8 h

theorem v_chr_10 (g : mG) (M : mM) (P : mP) (j : Nat)
    (h : ((1 : Int32) = 0 → ((nI 0) = 0 ∨ (nI 0) = 1) ∧ (((nI 0) = 0 → False) ∧ (¬ ((nI 0) = 0) → ((nI j) < 0 → False) ∧ (¬ ((nI j) < 0) → ((nI j) < (nI 1) → (vp_in (nI j) 1 ∧ ((((((([99] : List Int32).getD (nI j).toNatClampNeg 0) &&& (nI 255)).toUInt32 % 65536).toInt32).toUInt32 % 65536).toInt32 = ((((([99] : List Int32).getD (nI j).toNatClampNeg 0) &&& (nI 255)).toUInt32 % 65536).toInt32) ∧ ((((((([99] : List Int32).getD (nI j).toNatClampNeg 0) &&& (nI 255)).toUInt32 % 65536).toInt32).toUInt32 % 65536).toInt32 = ((((([99] : List Int32).getD (nI j).toNatClampNeg 0) &&& (nI 255)).toUInt32 % 65536).toInt32) ∧ P (some (.inl ((((([99] : List Int32).getD (nI j).toNatClampNeg 0) &&& (nI 255)).toUInt32 % 65536).toInt32))) M)))) ∧ (¬ ((nI j) < (nI 1)) → False))))) ∧ (¬ ((1 : Int32) = 0) → (¬ (0 : Int32) = 0 → ((nI 0) = 0 ∨ (nI 0) = 1) ∧ (((nI 0) = 0 → False) ∧ (¬ ((nI 0) = 0) → ((nI j) < 0 → False) ∧ (¬ ((nI j) < 0) → ((nI j) < (nI 1) → (vp_in (nI j) 1 ∧ ((((((([99] : List Int32).getD (nI j).toNatClampNeg 0) &&& (nI 255)).toUInt32 % 65536).toInt32).toUInt32 % 65536).toInt32 = ((((([99] : List Int32).getD (nI j).toNatClampNeg 0) &&& (nI 255)).toUInt32 % 65536).toInt32) ∧ ((((((([99] : List Int32).getD (nI j).toNatClampNeg 0) &&& (nI 255)).toUInt32 % 65536).toInt32).toUInt32 % 65536).toInt32 = ((((([99] : List Int32).getD (nI j).toNatClampNeg 0) &&& (nI 255)).toUInt32 % 65536).toInt32) ∧ P (some (.inl ((((([99] : List Int32).getD (nI j).toNatClampNeg 0) &&& (nI 255)).toUInt32 % 65536).toInt32))) M)))) ∧ (¬ ((nI j) < (nI 1)) → False))))) ∧ (¬ (¬ (0 : Int32) = 0) → ((nI 1) = 0 ∨ (nI 1) = 1) ∧ (((nI 1) = 0 → False) ∧ (¬ ((nI 1) = 0) → ((nI j) < 0 → False) ∧ (¬ ((nI j) < 0) → ((nI j) < (nI 1) → (vp_in (nI j) 1 ∧ ((((((([99] : List Int32).getD (nI j).toNatClampNeg 0) &&& (nI 255)).toUInt32 % 65536).toInt32).toUInt32 % 65536).toInt32 = ((((([99] : List Int32).getD (nI j).toNatClampNeg 0) &&& (nI 255)).toUInt32 % 65536).toInt32) ∧ ((((((([99] : List Int32).getD (nI j).toNatClampNeg 0) &&& (nI 255)).toUInt32 % 65536).toInt32).toUInt32 % 65536).toInt32 = ((((([99] : List Int32).getD (nI j).toNatClampNeg 0) &&& (nI 255)).toUInt32 % 65536).toInt32) ∧ P (some (.inl ((((([99] : List Int32).getD (nI j).toNatClampNeg 0) &&& (nI 255)).toUInt32 % 65536).toInt32))) M)))) ∧ (¬ ((nI j) < (nI 1)) → False))))))) :
    mRun (mSx g) (f_J0_charAt_5068e g) P (0, [some (.inr (some 1010)), some (.inl (nI j))], [], M) := mRun.vc (m_J0_charAt_5068e g) [] 8 h

theorem v_chr_11 (g : mG) (M : mM) (P : mP) (j : Nat)
    (h : ((1 : Int32) = 0 → ((nI 0) = 0 ∨ (nI 0) = 1) ∧ (((nI 0) = 0 → False) ∧ (¬ ((nI 0) = 0) → ((nI j) < 0 → False) ∧ (¬ ((nI j) < 0) → ((nI j) < (nI 1) → (vp_in (nI j) 1 ∧ ((((((([100] : List Int32).getD (nI j).toNatClampNeg 0) &&& (nI 255)).toUInt32 % 65536).toInt32).toUInt32 % 65536).toInt32 = ((((([100] : List Int32).getD (nI j).toNatClampNeg 0) &&& (nI 255)).toUInt32 % 65536).toInt32) ∧ ((((((([100] : List Int32).getD (nI j).toNatClampNeg 0) &&& (nI 255)).toUInt32 % 65536).toInt32).toUInt32 % 65536).toInt32 = ((((([100] : List Int32).getD (nI j).toNatClampNeg 0) &&& (nI 255)).toUInt32 % 65536).toInt32) ∧ P (some (.inl ((((([100] : List Int32).getD (nI j).toNatClampNeg 0) &&& (nI 255)).toUInt32 % 65536).toInt32))) M)))) ∧ (¬ ((nI j) < (nI 1)) → False))))) ∧ (¬ ((1 : Int32) = 0) → (¬ (0 : Int32) = 0 → ((nI 0) = 0 ∨ (nI 0) = 1) ∧ (((nI 0) = 0 → False) ∧ (¬ ((nI 0) = 0) → ((nI j) < 0 → False) ∧ (¬ ((nI j) < 0) → ((nI j) < (nI 1) → (vp_in (nI j) 1 ∧ ((((((([100] : List Int32).getD (nI j).toNatClampNeg 0) &&& (nI 255)).toUInt32 % 65536).toInt32).toUInt32 % 65536).toInt32 = ((((([100] : List Int32).getD (nI j).toNatClampNeg 0) &&& (nI 255)).toUInt32 % 65536).toInt32) ∧ ((((((([100] : List Int32).getD (nI j).toNatClampNeg 0) &&& (nI 255)).toUInt32 % 65536).toInt32).toUInt32 % 65536).toInt32 = ((((([100] : List Int32).getD (nI j).toNatClampNeg 0) &&& (nI 255)).toUInt32 % 65536).toInt32) ∧ P (some (.inl ((((([100] : List Int32).getD (nI j).toNatClampNeg 0) &&& (nI 255)).toUInt32 % 65536).toInt32))) M)))) ∧ (¬ ((nI j) < (nI 1)) → False))))) ∧ (¬ (¬ (0 : Int32) = 0) → ((nI 1) = 0 ∨ (nI 1) = 1) ∧ (((nI 1) = 0 → False) ∧ (¬ ((nI 1) = 0) → ((nI j) < 0 → False) ∧ (¬ ((nI j) < 0) → ((nI j) < (nI 1) → (vp_in (nI j) 1 ∧ ((((((([100] : List Int32).getD (nI j).toNatClampNeg 0) &&& (nI 255)).toUInt32 % 65536).toInt32).toUInt32 % 65536).toInt32 = ((((([100] : List Int32).getD (nI j).toNatClampNeg 0) &&& (nI 255)).toUInt32 % 65536).toInt32) ∧ ((((((([100] : List Int32).getD (nI j).toNatClampNeg 0) &&& (nI 255)).toUInt32 % 65536).toInt32).toUInt32 % 65536).toInt32 = ((((([100] : List Int32).getD (nI j).toNatClampNeg 0) &&& (nI 255)).toUInt32 % 65536).toInt32) ∧ P (some (.inl ((((([100] : List Int32).getD (nI j).toNatClampNeg 0) &&& (nI 255)).toUInt32 % 65536).toInt32))) M)))) ∧ (¬ ((nI j) < (nI 1)) → False))))))) :
    mRun (mSx g) (f_J0_charAt_5068e g) P (0, [some (.inr (some 1011)), some (.inl (nI j))], [], M) := mRun.vc (m_J0_charAt_5068e g) [] 8 h

theorem v_chr_12 (g : mG) (M : mM) (P : mP) (j : Nat)
    (h : ((1 : Int32) = 0 → ((nI 0) = 0 ∨ (nI 0) = 1) ∧ (((nI 0) = 0 → False) ∧ (¬ ((nI 0) = 0) → ((nI j) < 0 → False) ∧ (¬ ((nI j) < 0) → ((nI j) < (nI 1) → (vp_in (nI j) 1 ∧ ((((((([104] : List Int32).getD (nI j).toNatClampNeg 0) &&& (nI 255)).toUInt32 % 65536).toInt32).toUInt32 % 65536).toInt32 = ((((([104] : List Int32).getD (nI j).toNatClampNeg 0) &&& (nI 255)).toUInt32 % 65536).toInt32) ∧ ((((((([104] : List Int32).getD (nI j).toNatClampNeg 0) &&& (nI 255)).toUInt32 % 65536).toInt32).toUInt32 % 65536).toInt32 = ((((([104] : List Int32).getD (nI j).toNatClampNeg 0) &&& (nI 255)).toUInt32 % 65536).toInt32) ∧ P (some (.inl ((((([104] : List Int32).getD (nI j).toNatClampNeg 0) &&& (nI 255)).toUInt32 % 65536).toInt32))) M)))) ∧ (¬ ((nI j) < (nI 1)) → False))))) ∧ (¬ ((1 : Int32) = 0) → (¬ (0 : Int32) = 0 → ((nI 0) = 0 ∨ (nI 0) = 1) ∧ (((nI 0) = 0 → False) ∧ (¬ ((nI 0) = 0) → ((nI j) < 0 → False) ∧ (¬ ((nI j) < 0) → ((nI j) < (nI 1) → (vp_in (nI j) 1 ∧ ((((((([104] : List Int32).getD (nI j).toNatClampNeg 0) &&& (nI 255)).toUInt32 % 65536).toInt32).toUInt32 % 65536).toInt32 = ((((([104] : List Int32).getD (nI j).toNatClampNeg 0) &&& (nI 255)).toUInt32 % 65536).toInt32) ∧ ((((((([104] : List Int32).getD (nI j).toNatClampNeg 0) &&& (nI 255)).toUInt32 % 65536).toInt32).toUInt32 % 65536).toInt32 = ((((([104] : List Int32).getD (nI j).toNatClampNeg 0) &&& (nI 255)).toUInt32 % 65536).toInt32) ∧ P (some (.inl ((((([104] : List Int32).getD (nI j).toNatClampNeg 0) &&& (nI 255)).toUInt32 % 65536).toInt32))) M)))) ∧ (¬ ((nI j) < (nI 1)) → False))))) ∧ (¬ (¬ (0 : Int32) = 0) → ((nI 1) = 0 ∨ (nI 1) = 1) ∧ (((nI 1) = 0 → False) ∧ (¬ ((nI 1) = 0) → ((nI j) < 0 → False) ∧ (¬ ((nI j) < 0) → ((nI j) < (nI 1) → (vp_in (nI j) 1 ∧ ((((((([104] : List Int32).getD (nI j).toNatClampNeg 0) &&& (nI 255)).toUInt32 % 65536).toInt32).toUInt32 % 65536).toInt32 = ((((([104] : List Int32).getD (nI j).toNatClampNeg 0) &&& (nI 255)).toUInt32 % 65536).toInt32) ∧ ((((((([104] : List Int32).getD (nI j).toNatClampNeg 0) &&& (nI 255)).toUInt32 % 65536).toInt32).toUInt32 % 65536).toInt32 = ((((([104] : List Int32).getD (nI j).toNatClampNeg 0) &&& (nI 255)).toUInt32 % 65536).toInt32) ∧ P (some (.inl ((((([104] : List Int32).getD (nI j).toNatClampNeg 0) &&& (nI 255)).toUInt32 % 65536).toInt32))) M)))) ∧ (¬ ((nI j) < (nI 1)) → False))))))) :
    mRun (mSx g) (f_J0_charAt_5068e g) P (0, [some (.inr (some 1012)), some (.inl (nI j))], [], M) := mRun.vc (m_J0_charAt_5068e g) [] 8 h

theorem v_chr_13 (g : mG) (M : mM) (P : mP) (j : Nat)
    (h : ((1 : Int32) = 0 → ((nI 0) = 0 ∨ (nI 0) = 1) ∧ (((nI 0) = 0 → False) ∧ (¬ ((nI 0) = 0) → ((nI j) < 0 → False) ∧ (¬ ((nI j) < 0) → ((nI j) < (nI 1) → (vp_in (nI j) 1 ∧ ((((((([115] : List Int32).getD (nI j).toNatClampNeg 0) &&& (nI 255)).toUInt32 % 65536).toInt32).toUInt32 % 65536).toInt32 = ((((([115] : List Int32).getD (nI j).toNatClampNeg 0) &&& (nI 255)).toUInt32 % 65536).toInt32) ∧ ((((((([115] : List Int32).getD (nI j).toNatClampNeg 0) &&& (nI 255)).toUInt32 % 65536).toInt32).toUInt32 % 65536).toInt32 = ((((([115] : List Int32).getD (nI j).toNatClampNeg 0) &&& (nI 255)).toUInt32 % 65536).toInt32) ∧ P (some (.inl ((((([115] : List Int32).getD (nI j).toNatClampNeg 0) &&& (nI 255)).toUInt32 % 65536).toInt32))) M)))) ∧ (¬ ((nI j) < (nI 1)) → False))))) ∧ (¬ ((1 : Int32) = 0) → (¬ (0 : Int32) = 0 → ((nI 0) = 0 ∨ (nI 0) = 1) ∧ (((nI 0) = 0 → False) ∧ (¬ ((nI 0) = 0) → ((nI j) < 0 → False) ∧ (¬ ((nI j) < 0) → ((nI j) < (nI 1) → (vp_in (nI j) 1 ∧ ((((((([115] : List Int32).getD (nI j).toNatClampNeg 0) &&& (nI 255)).toUInt32 % 65536).toInt32).toUInt32 % 65536).toInt32 = ((((([115] : List Int32).getD (nI j).toNatClampNeg 0) &&& (nI 255)).toUInt32 % 65536).toInt32) ∧ ((((((([115] : List Int32).getD (nI j).toNatClampNeg 0) &&& (nI 255)).toUInt32 % 65536).toInt32).toUInt32 % 65536).toInt32 = ((((([115] : List Int32).getD (nI j).toNatClampNeg 0) &&& (nI 255)).toUInt32 % 65536).toInt32) ∧ P (some (.inl ((((([115] : List Int32).getD (nI j).toNatClampNeg 0) &&& (nI 255)).toUInt32 % 65536).toInt32))) M)))) ∧ (¬ ((nI j) < (nI 1)) → False))))) ∧ (¬ (¬ (0 : Int32) = 0) → ((nI 1) = 0 ∨ (nI 1) = 1) ∧ (((nI 1) = 0 → False) ∧ (¬ ((nI 1) = 0) → ((nI j) < 0 → False) ∧ (¬ ((nI j) < 0) → ((nI j) < (nI 1) → (vp_in (nI j) 1 ∧ ((((((([115] : List Int32).getD (nI j).toNatClampNeg 0) &&& (nI 255)).toUInt32 % 65536).toInt32).toUInt32 % 65536).toInt32 = ((((([115] : List Int32).getD (nI j).toNatClampNeg 0) &&& (nI 255)).toUInt32 % 65536).toInt32) ∧ ((((((([115] : List Int32).getD (nI j).toNatClampNeg 0) &&& (nI 255)).toUInt32 % 65536).toInt32).toUInt32 % 65536).toInt32 = ((((([115] : List Int32).getD (nI j).toNatClampNeg 0) &&& (nI 255)).toUInt32 % 65536).toInt32) ∧ P (some (.inl ((((([115] : List Int32).getD (nI j).toNatClampNeg 0) &&& (nI 255)).toUInt32 % 65536).toInt32))) M)))) ∧ (¬ ((nI j) < (nI 1)) → False))))))) :
    mRun (mSx g) (f_J0_charAt_5068e g) P (0, [some (.inr (some 1013)), some (.inl (nI j))], [], M) := mRun.vc (m_J0_charAt_5068e g) [] 8 h

theorem v_chr_14 (g : mG) (M : mM) (P : mP) (j : Nat)
    (h : ((1 : Int32) = 0 → ((nI 0) = 0 ∨ (nI 0) = 1) ∧ (((nI 0) = 0 → False) ∧ (¬ ((nI 0) = 0) → ((nI j) < 0 → False) ∧ (¬ ((nI j) < 0) → ((nI j) < (nI 1) → (vp_in (nI j) 1 ∧ ((((((([110] : List Int32).getD (nI j).toNatClampNeg 0) &&& (nI 255)).toUInt32 % 65536).toInt32).toUInt32 % 65536).toInt32 = ((((([110] : List Int32).getD (nI j).toNatClampNeg 0) &&& (nI 255)).toUInt32 % 65536).toInt32) ∧ ((((((([110] : List Int32).getD (nI j).toNatClampNeg 0) &&& (nI 255)).toUInt32 % 65536).toInt32).toUInt32 % 65536).toInt32 = ((((([110] : List Int32).getD (nI j).toNatClampNeg 0) &&& (nI 255)).toUInt32 % 65536).toInt32) ∧ P (some (.inl ((((([110] : List Int32).getD (nI j).toNatClampNeg 0) &&& (nI 255)).toUInt32 % 65536).toInt32))) M)))) ∧ (¬ ((nI j) < (nI 1)) → False))))) ∧ (¬ ((1 : Int32) = 0) → (¬ (0 : Int32) = 0 → ((nI 0) = 0 ∨ (nI 0) = 1) ∧ (((nI 0) = 0 → False) ∧ (¬ ((nI 0) = 0) → ((nI j) < 0 → False) ∧ (¬ ((nI j) < 0) → ((nI j) < (nI 1) → (vp_in (nI j) 1 ∧ ((((((([110] : List Int32).getD (nI j).toNatClampNeg 0) &&& (nI 255)).toUInt32 % 65536).toInt32).toUInt32 % 65536).toInt32 = ((((([110] : List Int32).getD (nI j).toNatClampNeg 0) &&& (nI 255)).toUInt32 % 65536).toInt32) ∧ ((((((([110] : List Int32).getD (nI j).toNatClampNeg 0) &&& (nI 255)).toUInt32 % 65536).toInt32).toUInt32 % 65536).toInt32 = ((((([110] : List Int32).getD (nI j).toNatClampNeg 0) &&& (nI 255)).toUInt32 % 65536).toInt32) ∧ P (some (.inl ((((([110] : List Int32).getD (nI j).toNatClampNeg 0) &&& (nI 255)).toUInt32 % 65536).toInt32))) M)))) ∧ (¬ ((nI j) < (nI 1)) → False))))) ∧ (¬ (¬ (0 : Int32) = 0) → ((nI 1) = 0 ∨ (nI 1) = 1) ∧ (((nI 1) = 0 → False) ∧ (¬ ((nI 1) = 0) → ((nI j) < 0 → False) ∧ (¬ ((nI j) < 0) → ((nI j) < (nI 1) → (vp_in (nI j) 1 ∧ ((((((([110] : List Int32).getD (nI j).toNatClampNeg 0) &&& (nI 255)).toUInt32 % 65536).toInt32).toUInt32 % 65536).toInt32 = ((((([110] : List Int32).getD (nI j).toNatClampNeg 0) &&& (nI 255)).toUInt32 % 65536).toInt32) ∧ ((((((([110] : List Int32).getD (nI j).toNatClampNeg 0) &&& (nI 255)).toUInt32 % 65536).toInt32).toUInt32 % 65536).toInt32 = ((((([110] : List Int32).getD (nI j).toNatClampNeg 0) &&& (nI 255)).toUInt32 % 65536).toInt32) ∧ P (some (.inl ((((([110] : List Int32).getD (nI j).toNatClampNeg 0) &&& (nI 255)).toUInt32 % 65536).toInt32))) M)))) ∧ (¬ ((nI j) < (nI 1)) → False))))))) :
    mRun (mSx g) (f_J0_charAt_5068e g) P (0, [some (.inr (some 1014)), some (.inl (nI j))], [], M) := mRun.vc (m_J0_charAt_5068e g) [] 8 h

theorem v_chr_15 (g : mG) (M : mM) (P : mP) (j : Nat)
    (h : ((1 : Int32) = 0 → ((nI 0) = 0 ∨ (nI 0) = 1) ∧ (((nI 0) = 0 → False) ∧ (¬ ((nI 0) = 0) → ((nI j) < 0 → False) ∧ (¬ ((nI j) < 0) → ((nI j) < (nI 5) → (vp_in (nI j) 5 ∧ ((((((([99, 100, 104, 115, 110] : List Int32).getD (nI j).toNatClampNeg 0) &&& (nI 255)).toUInt32 % 65536).toInt32).toUInt32 % 65536).toInt32 = ((((([99, 100, 104, 115, 110] : List Int32).getD (nI j).toNatClampNeg 0) &&& (nI 255)).toUInt32 % 65536).toInt32) ∧ ((((((([99, 100, 104, 115, 110] : List Int32).getD (nI j).toNatClampNeg 0) &&& (nI 255)).toUInt32 % 65536).toInt32).toUInt32 % 65536).toInt32 = ((((([99, 100, 104, 115, 110] : List Int32).getD (nI j).toNatClampNeg 0) &&& (nI 255)).toUInt32 % 65536).toInt32) ∧ P (some (.inl ((((([99, 100, 104, 115, 110] : List Int32).getD (nI j).toNatClampNeg 0) &&& (nI 255)).toUInt32 % 65536).toInt32))) M)))) ∧ (¬ ((nI j) < (nI 5)) → False))))) ∧ (¬ ((1 : Int32) = 0) → (¬ (0 : Int32) = 0 → ((nI 0) = 0 ∨ (nI 0) = 1) ∧ (((nI 0) = 0 → False) ∧ (¬ ((nI 0) = 0) → ((nI j) < 0 → False) ∧ (¬ ((nI j) < 0) → ((nI j) < (nI 5) → (vp_in (nI j) 5 ∧ ((((((([99, 100, 104, 115, 110] : List Int32).getD (nI j).toNatClampNeg 0) &&& (nI 255)).toUInt32 % 65536).toInt32).toUInt32 % 65536).toInt32 = ((((([99, 100, 104, 115, 110] : List Int32).getD (nI j).toNatClampNeg 0) &&& (nI 255)).toUInt32 % 65536).toInt32) ∧ ((((((([99, 100, 104, 115, 110] : List Int32).getD (nI j).toNatClampNeg 0) &&& (nI 255)).toUInt32 % 65536).toInt32).toUInt32 % 65536).toInt32 = ((((([99, 100, 104, 115, 110] : List Int32).getD (nI j).toNatClampNeg 0) &&& (nI 255)).toUInt32 % 65536).toInt32) ∧ P (some (.inl ((((([99, 100, 104, 115, 110] : List Int32).getD (nI j).toNatClampNeg 0) &&& (nI 255)).toUInt32 % 65536).toInt32))) M)))) ∧ (¬ ((nI j) < (nI 5)) → False))))) ∧ (¬ (¬ (0 : Int32) = 0) → ((nI 1) = 0 ∨ (nI 1) = 1) ∧ (((nI 1) = 0 → False) ∧ (¬ ((nI 1) = 0) → ((nI j) < 0 → False) ∧ (¬ ((nI j) < 0) → ((nI j) < (nI 5) → (vp_in (nI j) 5 ∧ ((((((([99, 100, 104, 115, 110] : List Int32).getD (nI j).toNatClampNeg 0) &&& (nI 255)).toUInt32 % 65536).toInt32).toUInt32 % 65536).toInt32 = ((((([99, 100, 104, 115, 110] : List Int32).getD (nI j).toNatClampNeg 0) &&& (nI 255)).toUInt32 % 65536).toInt32) ∧ ((((((([99, 100, 104, 115, 110] : List Int32).getD (nI j).toNatClampNeg 0) &&& (nI 255)).toUInt32 % 65536).toInt32).toUInt32 % 65536).toInt32 = ((((([99, 100, 104, 115, 110] : List Int32).getD (nI j).toNatClampNeg 0) &&& (nI 255)).toUInt32 % 65536).toInt32) ∧ P (some (.inl ((((([99, 100, 104, 115, 110] : List Int32).getD (nI j).toNatClampNeg 0) &&& (nI 255)).toUInt32 % 65536).toInt32))) M)))) ∧ (¬ ((nI j) < (nI 5)) → False))))))) :
    mRun (mSx g) (f_J0_charAt_5068e g) P (0, [some (.inr (some 1015)), some (.inl (nI j))], [], M) := mRun.vc (m_J0_charAt_5068e g) [] 8 h

theorem v_chr_16 (g : mG) (M : mM) (P : mP) (j : Nat)
    (h : ((1 : Int32) = 0 → ((nI 0) = 0 ∨ (nI 0) = 1) ∧ (((nI 0) = 0 → False) ∧ (¬ ((nI 0) = 0) → ((nI j) < 0 → False) ∧ (¬ ((nI j) < 0) → ((nI j) < (nI 1) → (vp_in (nI j) 1 ∧ ((((((([32] : List Int32).getD (nI j).toNatClampNeg 0) &&& (nI 255)).toUInt32 % 65536).toInt32).toUInt32 % 65536).toInt32 = ((((([32] : List Int32).getD (nI j).toNatClampNeg 0) &&& (nI 255)).toUInt32 % 65536).toInt32) ∧ ((((((([32] : List Int32).getD (nI j).toNatClampNeg 0) &&& (nI 255)).toUInt32 % 65536).toInt32).toUInt32 % 65536).toInt32 = ((((([32] : List Int32).getD (nI j).toNatClampNeg 0) &&& (nI 255)).toUInt32 % 65536).toInt32) ∧ P (some (.inl ((((([32] : List Int32).getD (nI j).toNatClampNeg 0) &&& (nI 255)).toUInt32 % 65536).toInt32))) M)))) ∧ (¬ ((nI j) < (nI 1)) → False))))) ∧ (¬ ((1 : Int32) = 0) → (¬ (0 : Int32) = 0 → ((nI 0) = 0 ∨ (nI 0) = 1) ∧ (((nI 0) = 0 → False) ∧ (¬ ((nI 0) = 0) → ((nI j) < 0 → False) ∧ (¬ ((nI j) < 0) → ((nI j) < (nI 1) → (vp_in (nI j) 1 ∧ ((((((([32] : List Int32).getD (nI j).toNatClampNeg 0) &&& (nI 255)).toUInt32 % 65536).toInt32).toUInt32 % 65536).toInt32 = ((((([32] : List Int32).getD (nI j).toNatClampNeg 0) &&& (nI 255)).toUInt32 % 65536).toInt32) ∧ ((((((([32] : List Int32).getD (nI j).toNatClampNeg 0) &&& (nI 255)).toUInt32 % 65536).toInt32).toUInt32 % 65536).toInt32 = ((((([32] : List Int32).getD (nI j).toNatClampNeg 0) &&& (nI 255)).toUInt32 % 65536).toInt32) ∧ P (some (.inl ((((([32] : List Int32).getD (nI j).toNatClampNeg 0) &&& (nI 255)).toUInt32 % 65536).toInt32))) M)))) ∧ (¬ ((nI j) < (nI 1)) → False))))) ∧ (¬ (¬ (0 : Int32) = 0) → ((nI 1) = 0 ∨ (nI 1) = 1) ∧ (((nI 1) = 0 → False) ∧ (¬ ((nI 1) = 0) → ((nI j) < 0 → False) ∧ (¬ ((nI j) < 0) → ((nI j) < (nI 1) → (vp_in (nI j) 1 ∧ ((((((([32] : List Int32).getD (nI j).toNatClampNeg 0) &&& (nI 255)).toUInt32 % 65536).toInt32).toUInt32 % 65536).toInt32 = ((((([32] : List Int32).getD (nI j).toNatClampNeg 0) &&& (nI 255)).toUInt32 % 65536).toInt32) ∧ ((((((([32] : List Int32).getD (nI j).toNatClampNeg 0) &&& (nI 255)).toUInt32 % 65536).toInt32).toUInt32 % 65536).toInt32 = ((((([32] : List Int32).getD (nI j).toNatClampNeg 0) &&& (nI 255)).toUInt32 % 65536).toInt32) ∧ P (some (.inl ((((([32] : List Int32).getD (nI j).toNatClampNeg 0) &&& (nI 255)).toUInt32 % 65536).toInt32))) M)))) ∧ (¬ ((nI j) < (nI 1)) → False))))))) :
    mRun (mSx g) (f_J0_charAt_5068e g) P (0, [some (.inr (some 1016)), some (.inl (nI j))], [], M) := mRun.vc (m_J0_charAt_5068e g) [] 8 h

set_option maxHeartbeats 1000000 in
theorem run_J0_charAt_5068e : mRunOf 2 t_J0_charAt_5068e f_J0_charAt_5068e := fun g as M P hT => by
  obtain ⟨⟨w, j⟩, ⟨h1, rfl, h3⟩, hP⟩ := hT
  refine ⟨Nat.le_of_ble_eq_true rfl, ?_⟩
  dsimp only at h1 h3
  rcases (by omega : w = 0 ∨ w = 1 ∨ w = 2 ∨ w = 3 ∨ w = 4 ∨ w = 5 ∨ w = 6 ∨ w = 7 ∨ w = 8 ∨ w = 9 ∨ w = 10 ∨ w = 11 ∨ w = 12 ∨ w = 13 ∨ w = 14 ∨ w = 15 ∨ w = 16) with rfl | rfl | rfl | rfl | rfl | rfl | rfl | rfl | rfl | rfl | rfl | rfl | rfl | rfl | rfl | rfl | rfl
  · have hj : j < 4 := h3
    refine v_chr_0 g M P j ?_
    refine ⟨fun h1 => absurd h1 (by decide), fun h1 => ?_⟩
    refine ⟨fun h5 => absurd h5 (by decide), fun h5 => ?_⟩
    refine ⟨Or.inr rfl, ?_⟩
    refine ⟨fun h9 => absurd h9 (by decide), fun h9 => ?_⟩
    refine ⟨fun h10 => ?_, fun h10 => ?_⟩
    · exfalso
      simp (disch := omega) only [fa_lt, fa_le, fa_eq, nI_toInt, Int32.toInt_zero] at h10
      omega
    · refine ⟨fun h11 => ?_, fun h11 => ?_⟩
      · refine ⟨vp_in_nI hj (by decide), ?_⟩
        refine ⟨wB_chr2 0 (by decide) j hj, ?_⟩
        refine ⟨wB_chr2 0 (by decide) j hj, ?_⟩
        exact hP _ _ ⟨wB_chr 0 (by decide) j hj, rfl⟩
      · exfalso
        simp (disch := omega) only [fa_lt, fa_le, fa_eq, nI_toInt, Int32.toInt_zero] at h10 h11
        omega
  · have hj : j < 3 := h3
    refine v_chr_1 g M P j ?_
    refine ⟨fun h1 => absurd h1 (by decide), fun h1 => ?_⟩
    refine ⟨fun h5 => absurd h5 (by decide), fun h5 => ?_⟩
    refine ⟨Or.inr rfl, ?_⟩
    refine ⟨fun h9 => absurd h9 (by decide), fun h9 => ?_⟩
    refine ⟨fun h10 => ?_, fun h10 => ?_⟩
    · exfalso
      simp (disch := omega) only [fa_lt, fa_le, fa_eq, nI_toInt, Int32.toInt_zero] at h10
      omega
    · refine ⟨fun h11 => ?_, fun h11 => ?_⟩
      · refine ⟨vp_in_nI hj (by decide), ?_⟩
        refine ⟨wB_chr2 1 (by decide) j hj, ?_⟩
        refine ⟨wB_chr2 1 (by decide) j hj, ?_⟩
        exact hP _ _ ⟨wB_chr 1 (by decide) j hj, rfl⟩
      · exfalso
        simp (disch := omega) only [fa_lt, fa_le, fa_eq, nI_toInt, Int32.toInt_zero] at h10 h11
        omega
  · have hj : j < 4 := h3
    refine v_chr_2 g M P j ?_
    refine ⟨fun h1 => absurd h1 (by decide), fun h1 => ?_⟩
    refine ⟨fun h5 => absurd h5 (by decide), fun h5 => ?_⟩
    refine ⟨Or.inr rfl, ?_⟩
    refine ⟨fun h9 => absurd h9 (by decide), fun h9 => ?_⟩
    refine ⟨fun h10 => ?_, fun h10 => ?_⟩
    · exfalso
      simp (disch := omega) only [fa_lt, fa_le, fa_eq, nI_toInt, Int32.toInt_zero] at h10
      omega
    · refine ⟨fun h11 => ?_, fun h11 => ?_⟩
      · refine ⟨vp_in_nI hj (by decide), ?_⟩
        refine ⟨wB_chr2 2 (by decide) j hj, ?_⟩
        refine ⟨wB_chr2 2 (by decide) j hj, ?_⟩
        exact hP _ _ ⟨wB_chr 2 (by decide) j hj, rfl⟩
      · exfalso
        simp (disch := omega) only [fa_lt, fa_le, fa_eq, nI_toInt, Int32.toInt_zero] at h10 h11
        omega
  · have hj : j < 6 := h3
    refine v_chr_3 g M P j ?_
    refine ⟨fun h1 => absurd h1 (by decide), fun h1 => ?_⟩
    refine ⟨fun h5 => absurd h5 (by decide), fun h5 => ?_⟩
    refine ⟨Or.inr rfl, ?_⟩
    refine ⟨fun h9 => absurd h9 (by decide), fun h9 => ?_⟩
    refine ⟨fun h10 => ?_, fun h10 => ?_⟩
    · exfalso
      simp (disch := omega) only [fa_lt, fa_le, fa_eq, nI_toInt, Int32.toInt_zero] at h10
      omega
    · refine ⟨fun h11 => ?_, fun h11 => ?_⟩
      · refine ⟨vp_in_nI hj (by decide), ?_⟩
        refine ⟨wB_chr2 3 (by decide) j hj, ?_⟩
        refine ⟨wB_chr2 3 (by decide) j hj, ?_⟩
        exact hP _ _ ⟨wB_chr 3 (by decide) j hj, rfl⟩
      · exfalso
        simp (disch := omega) only [fa_lt, fa_le, fa_eq, nI_toInt, Int32.toInt_zero] at h10 h11
        omega
  · have hj : j < 8 := h3
    refine v_chr_4 g M P j ?_
    refine ⟨fun h1 => absurd h1 (by decide), fun h1 => ?_⟩
    refine ⟨fun h5 => absurd h5 (by decide), fun h5 => ?_⟩
    refine ⟨Or.inr rfl, ?_⟩
    refine ⟨fun h9 => absurd h9 (by decide), fun h9 => ?_⟩
    refine ⟨fun h10 => ?_, fun h10 => ?_⟩
    · exfalso
      simp (disch := omega) only [fa_lt, fa_le, fa_eq, nI_toInt, Int32.toInt_zero] at h10
      omega
    · refine ⟨fun h11 => ?_, fun h11 => ?_⟩
      · refine ⟨vp_in_nI hj (by decide), ?_⟩
        refine ⟨wB_chr2 4 (by decide) j hj, ?_⟩
        refine ⟨wB_chr2 4 (by decide) j hj, ?_⟩
        exact hP _ _ ⟨wB_chr 4 (by decide) j hj, rfl⟩
      · exfalso
        simp (disch := omega) only [fa_lt, fa_le, fa_eq, nI_toInt, Int32.toInt_zero] at h10 h11
        omega
  · have hj : j < 4 := h3
    refine v_chr_5 g M P j ?_
    refine ⟨fun h1 => absurd h1 (by decide), fun h1 => ?_⟩
    refine ⟨fun h5 => absurd h5 (by decide), fun h5 => ?_⟩
    refine ⟨Or.inr rfl, ?_⟩
    refine ⟨fun h9 => absurd h9 (by decide), fun h9 => ?_⟩
    refine ⟨fun h10 => ?_, fun h10 => ?_⟩
    · exfalso
      simp (disch := omega) only [fa_lt, fa_le, fa_eq, nI_toInt, Int32.toInt_zero] at h10
      omega
    · refine ⟨fun h11 => ?_, fun h11 => ?_⟩
      · refine ⟨vp_in_nI hj (by decide), ?_⟩
        refine ⟨wB_chr2 5 (by decide) j hj, ?_⟩
        refine ⟨wB_chr2 5 (by decide) j hj, ?_⟩
        exact hP _ _ ⟨wB_chr 5 (by decide) j hj, rfl⟩
      · exfalso
        simp (disch := omega) only [fa_lt, fa_le, fa_eq, nI_toInt, Int32.toInt_zero] at h10 h11
        omega
  · have hj : j < 5 := h3
    refine v_chr_6 g M P j ?_
    refine ⟨fun h1 => absurd h1 (by decide), fun h1 => ?_⟩
    refine ⟨fun h5 => absurd h5 (by decide), fun h5 => ?_⟩
    refine ⟨Or.inr rfl, ?_⟩
    refine ⟨fun h9 => absurd h9 (by decide), fun h9 => ?_⟩
    refine ⟨fun h10 => ?_, fun h10 => ?_⟩
    · exfalso
      simp (disch := omega) only [fa_lt, fa_le, fa_eq, nI_toInt, Int32.toInt_zero] at h10
      omega
    · refine ⟨fun h11 => ?_, fun h11 => ?_⟩
      · refine ⟨vp_in_nI hj (by decide), ?_⟩
        refine ⟨wB_chr2 6 (by decide) j hj, ?_⟩
        refine ⟨wB_chr2 6 (by decide) j hj, ?_⟩
        exact hP _ _ ⟨wB_chr 6 (by decide) j hj, rfl⟩
      · exfalso
        simp (disch := omega) only [fa_lt, fa_le, fa_eq, nI_toInt, Int32.toInt_zero] at h10 h11
        omega
  · have hj : j < 4 := h3
    refine v_chr_7 g M P j ?_
    refine ⟨fun h1 => absurd h1 (by decide), fun h1 => ?_⟩
    refine ⟨fun h5 => absurd h5 (by decide), fun h5 => ?_⟩
    refine ⟨Or.inr rfl, ?_⟩
    refine ⟨fun h9 => absurd h9 (by decide), fun h9 => ?_⟩
    refine ⟨fun h10 => ?_, fun h10 => ?_⟩
    · exfalso
      simp (disch := omega) only [fa_lt, fa_le, fa_eq, nI_toInt, Int32.toInt_zero] at h10
      omega
    · refine ⟨fun h11 => ?_, fun h11 => ?_⟩
      · refine ⟨vp_in_nI hj (by decide), ?_⟩
        refine ⟨wB_chr2 7 (by decide) j hj, ?_⟩
        refine ⟨wB_chr2 7 (by decide) j hj, ?_⟩
        exact hP _ _ ⟨wB_chr 7 (by decide) j hj, rfl⟩
      · exfalso
        simp (disch := omega) only [fa_lt, fa_le, fa_eq, nI_toInt, Int32.toInt_zero] at h10 h11
        omega
  · have hj : j < 4 := h3
    refine v_chr_8 g M P j ?_
    refine ⟨fun h1 => absurd h1 (by decide), fun h1 => ?_⟩
    refine ⟨fun h5 => absurd h5 (by decide), fun h5 => ?_⟩
    refine ⟨Or.inr rfl, ?_⟩
    refine ⟨fun h9 => absurd h9 (by decide), fun h9 => ?_⟩
    refine ⟨fun h10 => ?_, fun h10 => ?_⟩
    · exfalso
      simp (disch := omega) only [fa_lt, fa_le, fa_eq, nI_toInt, Int32.toInt_zero] at h10
      omega
    · refine ⟨fun h11 => ?_, fun h11 => ?_⟩
      · refine ⟨vp_in_nI hj (by decide), ?_⟩
        refine ⟨wB_chr2 8 (by decide) j hj, ?_⟩
        refine ⟨wB_chr2 8 (by decide) j hj, ?_⟩
        exact hP _ _ ⟨wB_chr 8 (by decide) j hj, rfl⟩
      · exfalso
        simp (disch := omega) only [fa_lt, fa_le, fa_eq, nI_toInt, Int32.toInt_zero] at h10 h11
        omega
  · exact absurd h3 (Nat.not_lt_zero j)
  · have hj : j < 1 := h3
    refine v_chr_10 g M P j ?_
    refine ⟨fun h1 => absurd h1 (by decide), fun h1 => ?_⟩
    refine ⟨fun h5 => absurd h5 (by decide), fun h5 => ?_⟩
    refine ⟨Or.inr rfl, ?_⟩
    refine ⟨fun h9 => absurd h9 (by decide), fun h9 => ?_⟩
    refine ⟨fun h10 => ?_, fun h10 => ?_⟩
    · exfalso
      simp (disch := omega) only [fa_lt, fa_le, fa_eq, nI_toInt, Int32.toInt_zero] at h10
      omega
    · refine ⟨fun h11 => ?_, fun h11 => ?_⟩
      · refine ⟨vp_in_nI hj (by decide), ?_⟩
        refine ⟨wB_chr2 10 (by decide) j hj, ?_⟩
        refine ⟨wB_chr2 10 (by decide) j hj, ?_⟩
        exact hP _ _ ⟨wB_chr 10 (by decide) j hj, rfl⟩
      · exfalso
        simp (disch := omega) only [fa_lt, fa_le, fa_eq, nI_toInt, Int32.toInt_zero] at h10 h11
        omega
  · have hj : j < 1 := h3
    refine v_chr_11 g M P j ?_
    refine ⟨fun h1 => absurd h1 (by decide), fun h1 => ?_⟩
    refine ⟨fun h5 => absurd h5 (by decide), fun h5 => ?_⟩
    refine ⟨Or.inr rfl, ?_⟩
    refine ⟨fun h9 => absurd h9 (by decide), fun h9 => ?_⟩
    refine ⟨fun h10 => ?_, fun h10 => ?_⟩
    · exfalso
      simp (disch := omega) only [fa_lt, fa_le, fa_eq, nI_toInt, Int32.toInt_zero] at h10
      omega
    · refine ⟨fun h11 => ?_, fun h11 => ?_⟩
      · refine ⟨vp_in_nI hj (by decide), ?_⟩
        refine ⟨wB_chr2 11 (by decide) j hj, ?_⟩
        refine ⟨wB_chr2 11 (by decide) j hj, ?_⟩
        exact hP _ _ ⟨wB_chr 11 (by decide) j hj, rfl⟩
      · exfalso
        simp (disch := omega) only [fa_lt, fa_le, fa_eq, nI_toInt, Int32.toInt_zero] at h10 h11
        omega
  · have hj : j < 1 := h3
    refine v_chr_12 g M P j ?_
    refine ⟨fun h1 => absurd h1 (by decide), fun h1 => ?_⟩
    refine ⟨fun h5 => absurd h5 (by decide), fun h5 => ?_⟩
    refine ⟨Or.inr rfl, ?_⟩
    refine ⟨fun h9 => absurd h9 (by decide), fun h9 => ?_⟩
    refine ⟨fun h10 => ?_, fun h10 => ?_⟩
    · exfalso
      simp (disch := omega) only [fa_lt, fa_le, fa_eq, nI_toInt, Int32.toInt_zero] at h10
      omega
    · refine ⟨fun h11 => ?_, fun h11 => ?_⟩
      · refine ⟨vp_in_nI hj (by decide), ?_⟩
        refine ⟨wB_chr2 12 (by decide) j hj, ?_⟩
        refine ⟨wB_chr2 12 (by decide) j hj, ?_⟩
        exact hP _ _ ⟨wB_chr 12 (by decide) j hj, rfl⟩
      · exfalso
        simp (disch := omega) only [fa_lt, fa_le, fa_eq, nI_toInt, Int32.toInt_zero] at h10 h11
        omega
  · have hj : j < 1 := h3
    refine v_chr_13 g M P j ?_
    refine ⟨fun h1 => absurd h1 (by decide), fun h1 => ?_⟩
    refine ⟨fun h5 => absurd h5 (by decide), fun h5 => ?_⟩
    refine ⟨Or.inr rfl, ?_⟩
    refine ⟨fun h9 => absurd h9 (by decide), fun h9 => ?_⟩
    refine ⟨fun h10 => ?_, fun h10 => ?_⟩
    · exfalso
      simp (disch := omega) only [fa_lt, fa_le, fa_eq, nI_toInt, Int32.toInt_zero] at h10
      omega
    · refine ⟨fun h11 => ?_, fun h11 => ?_⟩
      · refine ⟨vp_in_nI hj (by decide), ?_⟩
        refine ⟨wB_chr2 13 (by decide) j hj, ?_⟩
        refine ⟨wB_chr2 13 (by decide) j hj, ?_⟩
        exact hP _ _ ⟨wB_chr 13 (by decide) j hj, rfl⟩
      · exfalso
        simp (disch := omega) only [fa_lt, fa_le, fa_eq, nI_toInt, Int32.toInt_zero] at h10 h11
        omega
  · have hj : j < 1 := h3
    refine v_chr_14 g M P j ?_
    refine ⟨fun h1 => absurd h1 (by decide), fun h1 => ?_⟩
    refine ⟨fun h5 => absurd h5 (by decide), fun h5 => ?_⟩
    refine ⟨Or.inr rfl, ?_⟩
    refine ⟨fun h9 => absurd h9 (by decide), fun h9 => ?_⟩
    refine ⟨fun h10 => ?_, fun h10 => ?_⟩
    · exfalso
      simp (disch := omega) only [fa_lt, fa_le, fa_eq, nI_toInt, Int32.toInt_zero] at h10
      omega
    · refine ⟨fun h11 => ?_, fun h11 => ?_⟩
      · refine ⟨vp_in_nI hj (by decide), ?_⟩
        refine ⟨wB_chr2 14 (by decide) j hj, ?_⟩
        refine ⟨wB_chr2 14 (by decide) j hj, ?_⟩
        exact hP _ _ ⟨wB_chr 14 (by decide) j hj, rfl⟩
      · exfalso
        simp (disch := omega) only [fa_lt, fa_le, fa_eq, nI_toInt, Int32.toInt_zero] at h10 h11
        omega
  · have hj : j < 5 := h3
    refine v_chr_15 g M P j ?_
    refine ⟨fun h1 => absurd h1 (by decide), fun h1 => ?_⟩
    refine ⟨fun h5 => absurd h5 (by decide), fun h5 => ?_⟩
    refine ⟨Or.inr rfl, ?_⟩
    refine ⟨fun h9 => absurd h9 (by decide), fun h9 => ?_⟩
    refine ⟨fun h10 => ?_, fun h10 => ?_⟩
    · exfalso
      simp (disch := omega) only [fa_lt, fa_le, fa_eq, nI_toInt, Int32.toInt_zero] at h10
      omega
    · refine ⟨fun h11 => ?_, fun h11 => ?_⟩
      · refine ⟨vp_in_nI hj (by decide), ?_⟩
        refine ⟨wB_chr2 15 (by decide) j hj, ?_⟩
        refine ⟨wB_chr2 15 (by decide) j hj, ?_⟩
        exact hP _ _ ⟨wB_chr 15 (by decide) j hj, rfl⟩
      · exfalso
        simp (disch := omega) only [fa_lt, fa_le, fa_eq, nI_toInt, Int32.toInt_zero] at h10 h11
        omega
  · have hj : j < 1 := h3
    refine v_chr_16 g M P j ?_
    refine ⟨fun h1 => absurd h1 (by decide), fun h1 => ?_⟩
    refine ⟨fun h5 => absurd h5 (by decide), fun h5 => ?_⟩
    refine ⟨Or.inr rfl, ?_⟩
    refine ⟨fun h9 => absurd h9 (by decide), fun h9 => ?_⟩
    refine ⟨fun h10 => ?_, fun h10 => ?_⟩
    · exfalso
      simp (disch := omega) only [fa_lt, fa_le, fa_eq, nI_toInt, Int32.toInt_zero] at h10
      omega
    · refine ⟨fun h11 => ?_, fun h11 => ?_⟩
      · refine ⟨vp_in_nI hj (by decide), ?_⟩
        refine ⟨wB_chr2 16 (by decide) j hj, ?_⟩
        refine ⟨wB_chr2 16 (by decide) j hj, ?_⟩
        exact hP _ _ ⟨wB_chr 16 (by decide) j hj, rfl⟩
      · exfalso
        simp (disch := omega) only [fa_lt, fa_le, fa_eq, nI_toInt, Int32.toInt_zero] at h10 h11
        omega
theorem ok_J0_charAt_5068e : mOK yJ0_charAt_5068e cJ0_charAt_5068e 2 (some .char) 4 t_J0_charAt_5068e := mOK.of f_J0_charAt_5068e (by decide) (fun _ => rfl) (fun g => mCodeOK kk_J0_charAt_5068e) (fun g => mFldL fk_RJ0 rfl) (fun g idx v h => by cases h) (fun g idx v h => by cases h) (mCalL (l := l_J0_charAt_5068e) (List.forall_mem_cons.mpr ⟨mSite.V (idx := 492) ok_J0_isLatin1_aae02 (by decide) (by decide) rv_J0_isLatin1_aae02 wc_J0_isLatin1_aae02 wk_RJ0_492 wi_J0_isLatin1_aae02 wl_J0_isLatin1_aae02 wn_RJ0 wd_J0_isLatin1_aae02, List.forall_mem_cons.mpr ⟨mSite.S (idx := 495) ok_J1_charAt_3b067 (by decide) (by decide) wc_J1_charAt_3b067 wk_RJ0_495 wt_J1_charAt_3b067 wn_RJ1 wd_J1_charAt_3b067, fun _ h => absurd h List.not_mem_nil⟩⟩) (fun _ => rfl)) run_J0_charAt_5068e

theorem wt_at {g : mG} {w : Nat} {M : mM} {P : mP} (hw : w < 9) (h : P (some (.inr (some (1000 + w)))) M) : t_X7_wordText g [.inl (nI w)] M P := by
  rcases (by omega : w = 0 ∨ w = 1 ∨ w = 2 ∨ w = 3 ∨ w = 4 ∨ w = 5 ∨ w = 6 ∨ w = 7 ∨ w = 8) with rfl | rfl | rfl | rfl | rfl | rfl | rfl | rfl | rfl
  · exact ⟨fun _ => h, fun z => absurd rfl z⟩
  · exact ⟨fun z => absurd z (by decide), fun _ => ⟨fun _ => h, fun z => absurd rfl z⟩⟩
  · exact ⟨fun z => absurd z (by decide), fun _ => ⟨fun z => absurd z (by decide), fun _ => ⟨fun _ => h, fun z => absurd rfl z⟩⟩⟩
  · exact ⟨fun z => absurd z (by decide), fun _ => ⟨fun z => absurd z (by decide), fun _ => ⟨fun z => absurd z (by decide), fun _ => ⟨fun _ => h, fun z => absurd rfl z⟩⟩⟩⟩
  · exact ⟨fun z => absurd z (by decide), fun _ => ⟨fun z => absurd z (by decide), fun _ => ⟨fun z => absurd z (by decide), fun _ => ⟨fun z => absurd z (by decide), fun _ => ⟨fun _ => h, fun z => absurd rfl z⟩⟩⟩⟩⟩
  · exact ⟨fun z => absurd z (by decide), fun _ => ⟨fun z => absurd z (by decide), fun _ => ⟨fun z => absurd z (by decide), fun _ => ⟨fun z => absurd z (by decide), fun _ => ⟨fun z => absurd z (by decide), fun _ => ⟨fun _ => h, fun z => absurd rfl z⟩⟩⟩⟩⟩⟩
  · exact ⟨fun z => absurd z (by decide), fun _ => ⟨fun z => absurd z (by decide), fun _ => ⟨fun z => absurd z (by decide), fun _ => ⟨fun z => absurd z (by decide), fun _ => ⟨fun z => absurd z (by decide), fun _ => ⟨fun z => absurd z (by decide), fun _ => ⟨fun _ => h, fun z => absurd rfl z⟩⟩⟩⟩⟩⟩⟩
  · exact ⟨fun z => absurd z (by decide), fun _ => ⟨fun z => absurd z (by decide), fun _ => ⟨fun z => absurd z (by decide), fun _ => ⟨fun z => absurd z (by decide), fun _ => ⟨fun z => absurd z (by decide), fun _ => ⟨fun z => absurd z (by decide), fun _ => ⟨fun z => absurd z (by decide), fun _ => ⟨fun _ => h, fun z => absurd rfl z⟩⟩⟩⟩⟩⟩⟩⟩
  · exact ⟨fun z => absurd z (by decide), fun _ => ⟨fun z => absurd z (by decide), fun _ => ⟨fun z => absurd z (by decide), fun _ => ⟨fun z => absurd z (by decide), fun _ => ⟨fun z => absurd z (by decide), fun _ => ⟨fun z => absurd z (by decide), fun _ => ⟨fun z => absurd z (by decide), fun _ => ⟨fun z => absurd z (by decide), fun _ => ⟨fun _ => h, fun z => absurd rfl z⟩⟩⟩⟩⟩⟩⟩⟩⟩
def pre_X6_isText (q : Nat × List Int32 × Nat × Nat) (as : List mV) (M : mM) : Prop := q.1 < 9 ∧ as = [.inr (some 1), .inr (some (1000 + q.1)), .inl (nI q.2.2.1)] ∧ RpTp M q.2.1 ∧ q.2.1.length ≤ 40 ∧ M 1 2 = nI q.2.2.2 ∧ q.2.2.1 ≤ q.2.2.2 ∧ q.2.2.2 ≤ q.2.1.length
def post_X6_isText (q : Nat × List Int32 × Nat × Nat) (_ : List mV) (M : mM) (v : Int32) (M' : mM) : Prop := v = mb (dTx q.2.1 q.1 q.2.2.1 q.2.2.2 = true) ∧ M' = M
abbrev t_X6_isText : mG → mT := mRi pre_X6_isText post_X6_isText
theorem mo_X6_isText : mMn t_X6_isText := mRi_mono
theorem rv_X6_isText : mHasR yX6_isText 2 t_X6_isText := by
  intro g as M P hT hl
  obtain ⟨q, ⟨-, h2, -⟩, -⟩ := hT
  exact ⟨_, _, h2, is_X6 g _ rfl⟩
def k_X6_isText : List (Nat × mI) := [(0, .aload_n 0, 1, 0, 0, []),
  (1, .getfield 23, 3, 0, 0, []),
  (4, .iload_n 2, 1, 2, 0, []),
  (5, .isub, 1, 0, 0, []),
  (6, .aload_n 1, 1, 1, 0, []),
  (7, .invokevirtual 77, 3, 0, 0, []),
  (10, .if_icmp .eq 5, 3, 15, 0, []),
  (13, .iconst 0, 1, 0, nI 0, []),
  (14, .ireturn, 1, 0, 0, []),
  (15, .iconst 0, 1, 0, nI 0, []),
  (16, .istore_n 3, 1, 3, 0, []),
  (17, .iload_n 3, 1, 3, 0, []),
  (18, .aload_n 1, 1, 1, 0, []),
  (19, .invokevirtual 77, 3, 0, 0, []),
  (22, .if_icmp .ge 29, 3, 51, 0, []),
  (25, .aload_n 0, 1, 0, 0, []),
  (26, .getfield 9, 3, 0, 0, []),
  (29, .iload_n 2, 1, 2, 0, []),
  (30, .iload_n 3, 1, 3, 0, []),
  (31, .iadd, 1, 0, 0, []),
  (32, .invokestatic 69, 3, 0, 0, []),
  (35, .aload_n 1, 1, 1, 0, []),
  (36, .iload_n 3, 1, 3, 0, []),
  (37, .invokevirtual 83, 3, 0, 0, []),
  (40, .if_icmp .eq 5, 3, 45, 0, []),
  (43, .iconst 0, 1, 0, nI 0, []),
  (44, .ireturn, 1, 0, 0, []),
  (45, .iinc 3 1, 3, 3, nI 1, []),
  (48, .goto (-31), 3, 17, 0, []),
  (51, .iconst 1, 1, 0, nI 1, []),
  (52, .ireturn, 1, 0, 0, [])]
theorem kk_X6_isText : (k_X6_isText.all fun e => mChk cX6_isText e.1 e.2) = true := by decide +kernel
def l_X6_isText : List (Nat × Nat × (mG → mT)) := [(3 * 77, 0 + 1, t_J0_length_8abf5), (3 * 69 + 1, 2, t_X7_at), (3 * 83, 1 + 1, t_J0_charAt_5068e)]
def f_X6_isText (g : mG) : mF := (mLk k_X6_isText, mLk fl_RX6, mLk (l_X6_isText.map fun e => (e.1, e.2.1, e.2.2 g)), mLk ([] : List (Nat × mV)), mLk ([] : List (Nat × mV)), some .boolean)
theorem m_X6_isText (g : mG) : mMono (f_X6_isText g) := mMonoL (g := g) (l := l_X6_isText) (List.forall_mem_cons.mpr ⟨mo_J0_length_8abf5, List.forall_mem_cons.mpr ⟨mo_X7_at, List.forall_mem_cons.mpr ⟨mo_J0_charAt_5068e, fun _ h => absurd h List.not_mem_nil⟩⟩⟩) rfl

theorem v_it (g : mG) (M : mM) (P : mP) (w : Nat) (x : Int32)
    (h : ∃ x1 : Nat, pre_J0_length_8abf5 x1 [.inr (some (1000 + w))] M ∧ ∀ (r3 : Int32) (M2 : mM), post_J0_length_8abf5 x1 [.inr (some (1000 + w))] M r3 M2 → ((((M 1 2) - x) = r3 → mRun (mSx g) (f_X6_isText g) P (17, [some (.inr (some 1)), some (.inr (some (1000 + w))), some (.inl x), some (.inl (nI 0))], [], M2)) ∧ (¬ (((M 1 2) - x) = r3) → ((nI 0) = 0 ∨ (nI 0) = 1) ∧ P (some (.inl (nI 0))) M2))) :
    mRun (mSx g) (f_X6_isText g) P (0, [some (.inr (some 1)), some (.inr (some (1000 + w))), some (.inl x), none], [], M) := mRun.vc (m_X6_isText g) [17] 10 h

theorem v_itl (g : mG) (M : mM) (P : mP) (w : Nat) (x k : Int32)
    (h : ∃ x1 : Nat, pre_J0_length_8abf5 x1 [.inr (some (1000 + w))] M ∧ ∀ (r3 : Int32) (M2 : mM), post_J0_length_8abf5 x1 [.inr (some (1000 + w))] M r3 M2 → ((r3 ≤ k → ((nI 1) = 0 ∨ (nI 1) = 1) ∧ P (some (.inl (nI 1))) M2) ∧ (¬ (r3 ≤ k) → ∃ x5 : Nat × Nat, pre_J0_charAt_5068e x5 [.inr (some (1000 + w)), .inl k] M2 ∧ ∀ (r7 : Int32) (M6 : mM), post_J0_charAt_5068e x5 [.inr (some (1000 + w)), .inl k] M2 r7 M6 → (((aAt (M2 2) 40 (x + k)) = r7 → mRun (mSx g) (f_X6_isText g) P (17, [some (.inr (some 1)), some (.inr (some (1000 + w))), some (.inl x), some (.inl (k + (nI 1)))], [], M6)) ∧ (¬ ((aAt (M2 2) 40 (x + k)) = r7) → ((nI 0) = 0 ∨ (nI 0) = 1) ∧ P (some (.inl (nI 0))) M6))))) :
    mRun (mSx g) (f_X6_isText g) P (17, [some (.inr (some 1)), some (.inr (some (1000 + w))), some (.inl x), some (.inl k)], [], M) := mRun.vc (m_X6_isText g) [17] 17 h

theorem it_loop (g : mG) (P : mP) (M : mM) (t : List Int32) (w a : Nat) (hw : w < 17) (hT : RpTp M t) (ht : t.length ≤ 40) (f : Nat → Bool) (L : Nat) (hL : L = (wB w).length) (hb : a + L ≤ t.length) (hf : ∀ j, j < L → (f j = true ↔ bA t (a + j) = (wB w).getD j 0)) (hP : ∀ v, v = mb (fA f L 0 = true) → P (some (.inl v)) M) :
    ∀ (n j : Nat), j + n = L → fA f n j = fA f L 0 → mRun (mSx g) (f_X6_isText g) P (17, [some (.inr (some 1)), some (.inr (some (1000 + w))), some (.inl (nI a)), some (.inl (nI j))], [], M) := by
  intro n
  induction n with
  | zero =>
    intro j h e
    refine v_itl g M P w _ _ ⟨w, ⟨hw, rfl⟩, fun r M2 hr => ?_⟩
    obtain ⟨hr1, rfl⟩ := hr
    have hr2 : r = nI L := by rw [hL]; exact hr1
    rw [hr2]
    exact ⟨fun _ => ⟨Or.inr rfl, hP _ (mb_t (by rw [← e]; rfl)).symm⟩, fun w => absurd (nI_le (by omega) (by omega)) w⟩
  | succ n ih =>
    intro j h e
    refine v_itl g M P w _ _ ⟨w, ⟨hw, rfl⟩, fun r M2 hr => ?_⟩
    obtain ⟨hr1, rfl⟩ := hr
    have hr2 : r = nI L := by rw [hL]; exact hr1
    rw [hr2]
    refine ⟨fun w => absurd w (nI_ge (by omega) (by omega)), fun _ => ⟨(w, j), ⟨hw, rfl, by rw [← hL]; show j < L; omega⟩, fun r2 M3 hr3 => ?_⟩⟩
    obtain ⟨hc, rfl⟩ := hr3
    have hc2 : r2 = (wB w).getD j 0 := hc
    rw [hc2, nI_add, nI_add, tape_at hT ht (by omega), ← hf j (by omega)]
    refine ⟨fun w => ih (j + 1) (by omega) (by rw [← e, fA, w, Bool.true_and]), fun w => ⟨Or.inl rfl, hP _ (mb_f ?_).symm⟩⟩
    rw [← e, fA, Bool.eq_false_iff.mpr w, Bool.false_and]
    decide
theorem run_X6_isText : mRunOf 4 t_X6_isText f_X6_isText := fun g as M P hT => by
  obtain ⟨⟨w, t, a, b⟩, ⟨h1, rfl, h3, h4, h5, h6, h7⟩, hP⟩ := hT
  refine ⟨Nat.le_of_ble_eq_true rfl, ?_⟩
  dsimp only at h1 h3 h4 h5 h6 h7
  have hQ : ∀ v, v = mb (dTx t w a b = true) → P (some (.inl v)) M := fun v e => hP v M ⟨e, rfl⟩
  refine v_it g M P w _ ⟨w, ⟨by omega, rfl⟩, fun r M2 hr => ?_⟩
  obtain ⟨hr1, rfl⟩ := hr
  have hr2 : r = nI (wB w).length := hr1
  have hwl := wB_len w (by omega)
  rw [hr2, h5, pk_sub h6, nI_eq (by omega) (by omega)]
  refine ⟨fun e => ?_, fun e => ⟨Or.inl rfl, hQ _ (mb_f ?_).symm⟩⟩
  · refine it_loop g P M2 t w a (by omega) h3 h4 (fun j => decide (bA t (a + j) = (wB w).getD j 0)) (wB w).length rfl (by omega) (fun j _ => decide_eq_true_iff) (fun v hv => hQ v ?_) _ 0 (Nat.zero_add _) rfl
    rw [hv]
    unfold dTx
    rw [decide_eq_true e, Bool.true_and]
  · unfold dTx
    rw [decide_eq_false e, Bool.false_and]
    decide
theorem ok_X6_isText : mOK yX6_isText cX6_isText 4 (some .boolean) 5 t_X6_isText := mOK.of f_X6_isText (by decide) (fun _ => rfl) (fun g => mCodeOK kk_X6_isText) (fun g => mFldL fk_RX6 rfl) (fun g idx v h => by cases h) (fun g idx v h => by cases h) (mCalL (l := l_X6_isText) (List.forall_mem_cons.mpr ⟨mSite.V (idx := 77) ok_J0_length_8abf5 (by decide) (by decide) rv_J0_length_8abf5 wc_J0_length_8abf5 wk_RX6_77 wi_J0_length_8abf5 wl_J0_length_8abf5 wn_RJ0 wd_J0_length_8abf5, List.forall_mem_cons.mpr ⟨mSite.SN (idx := 69) ok_X7_at (by decide) (by decide) wc_X7_at wm_RX6_69 wt_X7_at wn_RX7 wd_X7_at, List.forall_mem_cons.mpr ⟨mSite.V (idx := 83) ok_J0_charAt_5068e (by decide) (by decide) rv_J0_charAt_5068e wc_J0_charAt_5068e wk_RX6_83 wi_J0_charAt_5068e wl_J0_charAt_5068e wn_RJ0 wd_J0_charAt_5068e, fun _ h => absurd h List.not_mem_nil⟩⟩⟩) (fun _ => rfl)) run_X6_isText

