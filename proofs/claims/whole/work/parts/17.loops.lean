/-! ===== LOOPS OVER ROWS AND SETS, SCORES, WORDS ===== -/
abbrev t_J6_bitCount_0f7a4 : mG → mT := mP1 popC
theorem mo_J6_bitCount_0f7a4 : mMn t_J6_bitCount_0f7a4 := mP1_mono
def k_J6_bitCount_0f7a4 : List (Nat × mI) := [(0, .iload_n 0, 1, 0, 0, []),
  (1, .iload_n 0, 1, 0, 0, []),
  (2, .iconst 1, 1, 0, nI 1, []),
  (3, .iushr, 1, 0, 0, []),
  (4, .ldc_w 265, 3, 0, 0, []),
  (7, .iand, 1, 0, 0, []),
  (8, .isub, 1, 0, 0, []),
  (9, .istore_n 0, 1, 0, 0, []),
  (10, .iload_n 0, 1, 0, 0, []),
  (11, .ldc_w 266, 3, 0, 0, []),
  (14, .iand, 1, 0, 0, []),
  (15, .iload_n 0, 1, 0, 0, []),
  (16, .iconst 2, 1, 0, nI 2, []),
  (17, .iushr, 1, 0, 0, []),
  (18, .ldc_w 266, 3, 0, 0, []),
  (21, .iand, 1, 0, 0, []),
  (22, .iadd, 1, 0, 0, []),
  (23, .istore_n 0, 1, 0, 0, []),
  (24, .iload_n 0, 1, 0, 0, []),
  (25, .iload_n 0, 1, 0, 0, []),
  (26, .iconst 4, 1, 0, nI 4, []),
  (27, .iushr, 1, 0, 0, []),
  (28, .iadd, 1, 0, 0, []),
  (29, .ldc_w 267, 3, 0, 0, []),
  (32, .iand, 1, 0, 0, []),
  (33, .istore_n 0, 1, 0, 0, []),
  (34, .iload_n 0, 1, 0, 0, []),
  (35, .iload_n 0, 1, 0, 0, []),
  (36, .bipush 8, 2, 0, nI 8, []),
  (38, .iushr, 1, 0, 0, []),
  (39, .iadd, 1, 0, 0, []),
  (40, .istore_n 0, 1, 0, 0, []),
  (41, .iload_n 0, 1, 0, 0, []),
  (42, .iload_n 0, 1, 0, 0, []),
  (43, .bipush 16, 2, 0, nI 16, []),
  (45, .iushr, 1, 0, 0, []),
  (46, .iadd, 1, 0, 0, []),
  (47, .istore_n 0, 1, 0, 0, []),
  (48, .iload_n 0, 1, 0, 0, []),
  (49, .bipush 63, 2, 0, nI 63, []),
  (51, .iand, 1, 0, 0, []),
  (52, .ireturn, 1, 0, 0, [])]
theorem kk_J6_bitCount_0f7a4 : (k_J6_bitCount_0f7a4.all fun e => mChk cJ6_bitCount_0f7a4 e.1 e.2) = true := by decide +kernel
def l_J6_bitCount_0f7a4 : List (Nat × Nat × (mG → mT)) := []
def f_J6_bitCount_0f7a4 (g : mG) : mF := (mLk k_J6_bitCount_0f7a4, mLk ([] : List (Nat × Nat × Nat × Nat)), mLk (l_J6_bitCount_0f7a4.map fun e => (e.1, e.2.1, e.2.2 g)), mLk cs_RJ6, mLk ([] : List (Nat × mV)), some .int)
theorem m_J6_bitCount_0f7a4 (g : mG) : mMono (f_J6_bitCount_0f7a4 g) := mMonoL (g := g) (l := l_J6_bitCount_0f7a4) (fun _ h => absurd h List.not_mem_nil) rfl

theorem v_J6_bitCount_0f7a4 (g : mG) (M : mM) (P : mP) (x : Int32)
    (h : let v1 : Int32 := x - (((x.toUInt32 >>> ((nI 1).toUInt32 &&& Int32.toUInt32 31)).toInt32) &&& (nI 1431655765)); let v2 : Int32 := (v1 &&& (nI 858993459)) + (((v1.toUInt32 >>> ((nI 2).toUInt32 &&& Int32.toUInt32 31)).toInt32) &&& (nI 858993459)); let v3 : Int32 := (v2 + ((v2.toUInt32 >>> ((nI 4).toUInt32 &&& Int32.toUInt32 31)).toInt32)) &&& (nI 252645135); let v4 : Int32 := v3 + ((v3.toUInt32 >>> ((nI 8).toUInt32 &&& Int32.toUInt32 31)).toInt32); let v5 : Int32 := v4 + ((v4.toUInt32 >>> ((nI 16).toUInt32 &&& Int32.toUInt32 31)).toInt32); P (some (.inl (v5 &&& (nI 63)))) M) :
    mRun (mSx g) (f_J6_bitCount_0f7a4 g) P (0, [some (.inl x)], [], M) := mRun.vc (m_J6_bitCount_0f7a4 g) [] 42 h

theorem run_J6_bitCount_0f7a4 : mRunOf 1 t_J6_bitCount_0f7a4 f_J6_bitCount_0f7a4 := runP1 (by decide) (fun g M P x h => v_J6_bitCount_0f7a4 g M P x h)
theorem ok_J6_bitCount_0f7a4 : mOK yJ6_bitCount_0f7a4 cJ6_bitCount_0f7a4 1 (some .int) 1 t_J6_bitCount_0f7a4 := mOK.of f_J6_bitCount_0f7a4 (by decide) (fun _ => rfl) (fun g => mCodeOK kk_J6_bitCount_0f7a4) (fun g => mFldL (l := []) (fun _ h => absurd h List.not_mem_nil) rfl) (mCstL ck_RJ6 (fun _ => rfl)) (fun g idx v h => by cases h) (mCalL (l := l_J6_bitCount_0f7a4) (fun _ h => absurd h List.not_mem_nil) (fun _ => rfl)) run_J6_bitCount_0f7a4

abbrev t_X7_lowestCard : mG → mT := mP1 fLow
theorem mo_X7_lowestCard : mMn t_X7_lowestCard := mP1_mono
def k_X7_lowestCard : List (Nat × mI) := [(0, .iload_n 0, 1, 0, 0, []),
  (1, .ifCond .ne 7, 3, 8, 0, []),
  (4, .iconst (-1), 1, 0, -1, []),
  (5, .goto 12, 3, 17, 0, []),
  (8, .iload_n 0, 1, 0, 0, []),
  (9, .iload_n 0, 1, 0, 0, []),
  (10, .ineg, 1, 0, 0, []),
  (11, .iand, 1, 0, 0, []),
  (12, .iconst 1, 1, 0, nI 1, []),
  (13, .isub, 1, 0, 0, []),
  (14, .invokestatic 231, 3, 0, 0, []),
  (17, .ireturn, 1, 0, 0, [])]
theorem kk_X7_lowestCard : (k_X7_lowestCard.all fun e => mChk cX7_lowestCard e.1 e.2) = true := by decide +kernel
def l_X7_lowestCard : List (Nat × Nat × (mG → mT)) := [(3 * 231 + 1, 1, t_J6_bitCount_0f7a4)]
def f_X7_lowestCard (g : mG) : mF := (mLk k_X7_lowestCard, mLk fl_RX7, mLk (l_X7_lowestCard.map fun e => (e.1, e.2.1, e.2.2 g)), mLk ([] : List (Nat × mV)), mLk ([] : List (Nat × mV)), some .int)
theorem m_X7_lowestCard (g : mG) : mMono (f_X7_lowestCard g) := mMonoL (g := g) (l := l_X7_lowestCard) (List.forall_mem_cons.mpr ⟨mo_J6_bitCount_0f7a4, fun _ h => absurd h List.not_mem_nil⟩) rfl

theorem v_X7_lowestCard (g : mG) (M : mM) (P : mP) (x : Int32)
    (h : (¬ x = 0 → P (some (.inl (popC ((x &&& (-x)) - (nI 1))))) M) ∧ (¬ (¬ x = 0) → P (some (.inl (-1))) M)) :
    mRun (mSx g) (f_X7_lowestCard g) P (0, [some (.inl x)], [], M) := mRun.vc (m_X7_lowestCard g) [] 10 h

theorem run_X7_lowestCard : mRunOf 1 t_X7_lowestCard f_X7_lowestCard := runP1 (by decide) (fun g M P x h => v_X7_lowestCard g M P x ⟨fun h1 => by
    refine mP_eq h ?_
    unfold fLow
    rw [if_neg (show ¬ x = nI 0 from h1)], fun h1 => by
    refine mP_eq h ?_
    unfold fLow
    rw [if_pos (show x = nI 0 from Classical.not_not.mp h1)]⟩)
theorem ok_X7_lowestCard : mOK yX7_lowestCard cX7_lowestCard 1 (some .int) 2 t_X7_lowestCard := mOK.of f_X7_lowestCard (by decide) (fun _ => rfl) (fun g => mCodeOK kk_X7_lowestCard) (fun g => mFldL fk_RX7 rfl) (fun g idx v h => by cases h) (fun g idx v h => by cases h) (mCalL (l := l_X7_lowestCard) (List.forall_mem_cons.mpr ⟨mSite.S (idx := 231) ok_J6_bitCount_0f7a4 (by decide) (by decide) wc_J6_bitCount_0f7a4 wk_RX7_231 wt_J6_bitCount_0f7a4 wn_RJ6 wd_J6_bitCount_0f7a4, fun _ h => absurd h List.not_mem_nil⟩) (fun _ => rfl)) run_X7_lowestCard

def k_X7_fill : List (Nat × mI) := [(0, .iconst 0, 1, 0, nI 0, []),
  (1, .istore_n 2, 1, 2, 0, []),
  (2, .iload_n 2, 1, 2, 0, []),
  (3, .aload_n 0, 1, 0, 0, []),
  (4, .arraylength, 1, 1, 0, []),
  (5, .if_icmp .ge 13, 3, 18, 0, []),
  (8, .aload_n 0, 1, 0, 0, []),
  (9, .iload_n 2, 1, 2, 0, []),
  (10, .iload_n 1, 1, 1, 0, []),
  (11, .iastore, 1, 1, 0, []),
  (12, .iinc 2 1, 3, 2, nI 1, []),
  (15, .goto (-13), 3, 2, 0, []),
  (18, .return_, 1, 0, 0, [])]
theorem kk_X7_fill : (k_X7_fill.all fun e => mChk cX7_fill e.1 e.2) = true := by decide +kernel
def l_X7_fill : List (Nat × Nat × (mG → mT)) := []
def f_X7_fill (g : mG) : mF := (mLk k_X7_fill, mLk fl_RX7, mLk (l_X7_fill.map fun e => (e.1, e.2.1, e.2.2 g)), mLk ([] : List (Nat × mV)), mLk ([] : List (Nat × mV)), none)
theorem m_X7_fill (g : mG) : mMono (f_X7_fill g) := mMonoL (g := g) (l := l_X7_fill) (fun _ h => absurd h List.not_mem_nil) rfl

theorem v_X7_fill_0 (g : mG) (M : mM) (P : mP) (a : Nat) (v : Int32)
    (h : mRun (mSx g) (f_X7_fill g) P (2, [some (.inr (some a)), some (.inl v), some (.inl (nI 0))], [], M)) :
    mRun (mSx g) (f_X7_fill g) P (0, [some (.inr (some a)), some (.inl v), none], [], M) := mRun.vc (m_X7_fill g) [2] 3 h

theorem v_X7_fill_2 (g : mG) (M : mM) (P : mP) (a : Nat) (v i : Int32)
    (h : ∃ (n1 : Nat) (rs2 : List (Option Nat)), mRoA a = none ∧ (mSx g)[a]? = some (0, n1, rs2) ∧ (((nI n1) ≤ i → P none M) ∧ (¬ (nI n1) ≤ i → ∃ (n3 : Nat) (rs4 : List (Option Nat)), (mSx g)[a]? = some (0, n3, rs4) ∧ vp_in i n3 ∧ (let M5 : mM := mW1 M a i.toNatClampNeg v; mRun (mSx g) (f_X7_fill g) P (2, [some (.inr (some a)), some (.inl v), some (.inl (i + (nI 1)))], [], M5))))) :
    mRun (mSx g) (f_X7_fill g) P (2, [some (.inr (some a)), some (.inl v), some (.inl i)], [], M) := mRun.vc (m_X7_fill g) [2] 11 h

theorem aFill_0 {f : Nat → Int32} {v : Int32} : aFill f 0 v = f := funext fun j => by simp [aFill]
theorem aFill_s {f : Nat → Int32} {i : Nat} {v : Int32} : upd (aFill f i v) i v = aFill f (i + 1) v := funext fun j => by
  unfold upd aFill
  by_cases h : j = i
  · rw [if_pos h, if_pos (by omega)]
  · rw [if_neg h]
    by_cases h2 : j < i
    · rw [if_pos h2, if_pos (by omega)]
    · rw [if_neg h2, if_neg (by omega)]
theorem mUp_up {M : mM} {a : Nat} {f k : Nat → Int32} : mUp (mUp M a f) a k = mUp M a k := funext fun c => by
  unfold mUp
  split <;> rfl
theorem mUp_at {M : mM} {a : Nat} {f : Nat → Int32} : mUp M a f a = f := if_pos rfl
theorem mUp_ne {M : mM} {a c : Nat} {f : Nat → Int32} (h : c ≠ a) : mUp M a f c = M c := if_neg h
theorem run_X7_fill_2 (g : mG) (P : mP) (a n : Nat) (rs : List (Option Nat)) (M : mM) (v : Int32) (ha : mSH[a]? = some (0, n, rs)) (hP : P none (mUp M a (aFill (M a) n v))) :
    ∀ k i, i + k = n → mRun (mSx g) (f_X7_fill g) P (2, [some (.inr (some a)), some (.inl v), some (.inl (nI i))], [], mUp M a (aFill (M a) i v))
  | 0, i, h => by
    have hn := mSH_small ha
    obtain rfl : i = n := by omega
    exact v_X7_fill_2 g _ P a v (nI i) ⟨i, rs, (mSH_no ha).1, mSx_at ha, fun _ => hP, fun z => absurd (nI_le (Nat.le_refl i) hn) z⟩
  | k + 1, i, h => by
    have hn := mSH_small ha
    refine v_X7_fill_2 g _ P a v (nI i) ⟨n, rs, (mSH_no ha).1, mSx_at ha, fun z => absurd z (nI_ge (by omega) hn), fun _ => ⟨n, rs, mSx_at ha, vp_in_nI (by omega) hn, ?_⟩⟩
    have := run_X7_fill_2 g P a n rs M v ha hP k (i + 1) (by omega)
    intro M1
    have e : M1 = mUp M a (aFill (M a) (i + 1) v) := by
      show mUp (mUp M a _) a (upd (mUp M a _ a) _ v) = _
      rw [mUp_up, mUp_at, nI_clamp (by omega), aFill_s]
    rw [e, nI_add]
    exact this
theorem run_X7_fill : mRunOf 3 t_X7_fill f_X7_fill := fun g as M P hT => by
  unfold t_X7_fill at hT
  split at hT
  · rename_i a v
    split at hT
    · rename_i n rs ha
      refine ⟨Nat.le_succ _, v_X7_fill_0 g M P a v ?_⟩
      have := run_X7_fill_2 g P a n rs M v ha hT n 0 (Nat.zero_add n)
      rw [aFill_0, mUp_same] at this
      exact this
    · exact hT.elim
  · exact hT.elim
theorem ok_X7_fill : mOK yX7_fill cX7_fill 3 (none) 1 t_X7_fill := mOK.of f_X7_fill (by decide) (fun _ => rfl) (fun g => mCodeOK kk_X7_fill) (fun g => mFldL fk_RX7 rfl) (fun g idx v h => by cases h) (fun g idx v h => by cases h) (mCalL (l := l_X7_fill) (fun _ h => absurd h List.not_mem_nil) (fun _ => rfl)) run_X7_fill

theorem wnat_copy : Cond.native arraycopyName ∈ mGW := mIn 551 (by decide +kernel) rfl
theorem wst_copy : Cond.static arraycopyName ∈ mGW := mIn 550 (by decide +kernel) rfl
def k_X7_take : List (Nat × mI) := [(0, .aload_n 0, 1, 0, 0, []),
  (1, .iconst 0, 1, 0, nI 0, []),
  (2, .aload_n 1, 1, 1, 0, []),
  (3, .iconst 0, 1, 0, nI 0, []),
  (4, .aload_n 0, 1, 0, 0, []),
  (5, .arraylength, 1, 1, 0, []),
  (6, .aload_n 1, 1, 1, 0, []),
  (7, .arraylength, 1, 1, 0, []),
  (8, .invokestatic 369, 3, 0, 0, []),
  (11, .invokestatic 288, 3, 0, 0, []),
  (14, .return_, 1, 0, 0, [])]
theorem kk_X7_take : (k_X7_take.all fun e => mChk cX7_take e.1 e.2) = true := by decide +kernel
def l_X7_take : List (Nat × Nat × (mG → mT)) := [(3 * 369 + 1, 2, tMin), (3 * 288 + 1, 5, tCopy)]
def f_X7_take (g : mG) : mF := (mLk k_X7_take, mLk fl_RX7, mLk (l_X7_take.map fun e => (e.1, e.2.1, e.2.2 g)), mLk ([] : List (Nat × mV)), mLk ([] : List (Nat × mV)), none)
theorem m_X7_take (g : mG) : mMono (f_X7_take g) := mMonoL (g := g) (l := l_X7_take) (List.forall_mem_cons.mpr ⟨tMin_mono, List.forall_mem_cons.mpr ⟨tCopy_mono, fun _ h => absurd h List.not_mem_nil⟩⟩) rfl

theorem v_X7_take (g : mG) (M : mM) (P : mP) (a b : Nat)
    (h : ∃ (n1 : Nat) (rs2 : List (Option Nat)), mRoA a = none ∧ (mSx g)[a]? = some (0, n1, rs2) ∧ (∃ (n3 : Nat) (rs4 : List (Option Nat)), mRoA b = none ∧ (mSx g)[b]? = some (0, n3, rs4) ∧ (∃ n5 n6 : Nat, (∃ ra, (mSx g)[a]? = some (0, n5, ra)) ∧ (∃ rb, (mSx g)[b]? = some (0, n6, rb)) ∧ ¬ (nI 0) < 0 ∧ ¬ (nI 0) < 0 ∧ ¬ (if (nI n3) < (nI n1) then nI n3 else nI n1) < 0 ∧ (nI 0).toNatClampNeg + (if (nI n3) < (nI n1) then nI n3 else nI n1).toNatClampNeg ≤ n5 ∧ (nI 0).toNatClampNeg + (if (nI n3) < (nI n1) then nI n3 else nI n1).toNatClampNeg ≤ n6 ∧ (let M9 : mM := mUp M b (va_cpy (M a) (M b) (nI 0).toNatClampNeg (nI 0).toNatClampNeg (if (nI n3) < (nI n1) then nI n3 else nI n1).toNatClampNeg); P none M9)))) :
    mRun (mSx g) (f_X7_take g) P (0, [some (.inr (some a)), some (.inr (some b))], [], M) := mRun.vc (m_X7_take g) [] 11 h

theorem run_X7_take : mRunOf 2 t_X7_take f_X7_take := fun g as M P hT => by
  unfold t_X7_take at hT
  split at hT
  · rename_i a b
    split at hT
    · rename_i n ra k rb ha hb
      split at hT
      · rename_i hnk
        rw [Nat.beq_eq] at hnk
        subst hnk
        have hn := mSH_small ha
        have e : (if nI n < nI n then nI n else nI n) = nI n := by split <;> rfl
        refine ⟨Nat.le_refl _, v_X7_take g M P a b ⟨n, ra, (mSH_no ha).1, mSx_at ha, n, rb, (mSH_no hb).1, mSx_at hb, n, n, ⟨ra, mSx_at ha⟩, ⟨rb, mSx_at hb⟩, by decide, by decide, ?_, ?_, ?_, ?_⟩⟩
        · rw [e]
          exact nI_pos hn
        · rw [e, nI_clamp hn]
          show 0 + n ≤ n
          omega
        · rw [e, nI_clamp hn]
          show 0 + n ≤ n
          omega
        · rw [e, nI_clamp hn]
          exact hT
      · exact hT.elim
    · exact hT.elim
  · exact hT.elim
theorem ok_X7_take : mOK yX7_take cX7_take 2 (none) 1 t_X7_take := mOK.of f_X7_take (by decide) (fun _ => rfl) (fun g => mCodeOK kk_X7_take) (fun g => mFldL fk_RX7 rfl) (fun g idx v h => by cases h) (fun g idx v h => by cases h) (mCalL (l := l_X7_take) (List.forall_mem_cons.mpr ⟨mSite.min (idx := 369) (by decide) wc_J9_min_7cf53 wk_RX7_369 wt_J9_min_7cf53 wn_RJ9, List.forall_mem_cons.mpr ⟨mSite.copy (idx := 288) (by decide) (mIn 549 (by decide +kernel) rfl) wnat_copy wst_copy wn_RJ10, fun _ h => absurd h List.not_mem_nil⟩⟩) (fun _ => rfl)) run_X7_take

/-- n times the lowest card away -/
def rmv (x : Int32) : Nat → Int32
  | 0 => x
  | n + 1 => rmv x n &&& (rmv x n - nI 1)
theorem rmv_bts (x : Int32) : ∀ n, bts (ub (rmv x n)) 32 = (bts (ub x) 32).drop n
  | 0 => rfl
  | n + 1 => by
    by_cases h : rmv x n = 0
    · have e := rmv_bts x n
      rw [h, bts_zero] at e
      have e2 : rmv x (n + 1) = 0 := by rw [rmv, h]; decide
      rw [e2, bts_zero]
      have h3 := List.drop_eq_nil_iff.mp e.symm
      exact (List.drop_eq_nil_iff.mpr (by omega)).symm
    · obtain ⟨k, -, -, e, -⟩ := low_of h
      rw [rmv_bts x n] at e
      rw [rmv, ← List.drop_drop (i := 1), e]
      rfl
theorem rmv_low {x : Int32} {n : Nat} (h : n < (bts (ub x) 32).length) : fLow (rmv x n) = nI ((bts (ub x) 32).getD n 0) := by
  have e := rmv_bts x n
  have hne : rmv x n ≠ 0 := fun z => by
    rw [z, bts_zero] at e
    have := List.drop_eq_nil_iff.mp e.symm
    omega
  obtain ⟨k, -, e1, e2, -⟩ := low_of hne
  rw [e] at e2
  rw [e1]
  generalize bts (ub x) 32 = l at *
  generalize bts (ub (rmv x n &&& (rmv x n - nI 1))) 32 = l2 at *
  rw [List.drop_eq_getElem_cons h] at e2
  rw [List.getD_eq_getElem?_getD, List.getElem?_eq_getElem h]
  exact congrArg nI (List.cons.inj e2).1.symm
def pre_X7_cardByNumber (q : Nat × Int32) (as : List mV) (_ : mM) : Prop := as = [.inl q.2, .inl (nI q.1)] ∧ q.1 < 1000
def post_X7_cardByNumber (q : Nat × Int32) (_ : List mV) (M : mM) (v : Int32) (M' : mM) : Prop := v = fLow (rmv q.2 q.1) ∧ M' = M
abbrev t_X7_cardByNumber : mG → mT := mRi pre_X7_cardByNumber post_X7_cardByNumber
theorem mo_X7_cardByNumber : mMn t_X7_cardByNumber := mRi_mono
def k_X7_cardByNumber : List (Nat × mI) := [(0, .iload_n 0, 1, 0, 0, []),
  (1, .istore_n 2, 1, 2, 0, []),
  (2, .iconst 0, 1, 0, nI 0, []),
  (3, .istore_n 3, 1, 3, 0, []),
  (4, .iload_n 3, 1, 3, 0, []),
  (5, .iload_n 1, 1, 1, 0, []),
  (6, .if_icmp .ge 15, 3, 21, 0, []),
  (9, .iload_n 2, 1, 2, 0, []),
  (10, .iload_n 2, 1, 2, 0, []),
  (11, .iconst 1, 1, 0, nI 1, []),
  (12, .isub, 1, 0, 0, []),
  (13, .iand, 1, 0, 0, []),
  (14, .istore_n 2, 1, 2, 0, []),
  (15, .iinc 3 1, 3, 3, nI 1, []),
  (18, .goto (-14), 3, 4, 0, []),
  (21, .iload_n 2, 1, 2, 0, []),
  (22, .invokestatic 236, 3, 0, 0, []),
  (25, .ireturn, 1, 0, 0, [])]
theorem kk_X7_cardByNumber : (k_X7_cardByNumber.all fun e => mChk cX7_cardByNumber e.1 e.2) = true := by decide +kernel
def l_X7_cardByNumber : List (Nat × Nat × (mG → mT)) := [(3 * 236 + 1, 1, t_X7_lowestCard)]
def f_X7_cardByNumber (g : mG) : mF := (mLk k_X7_cardByNumber, mLk fl_RX7, mLk (l_X7_cardByNumber.map fun e => (e.1, e.2.1, e.2.2 g)), mLk ([] : List (Nat × mV)), mLk ([] : List (Nat × mV)), some .int)
theorem m_X7_cardByNumber (g : mG) : mMono (f_X7_cardByNumber g) := mMonoL (g := g) (l := l_X7_cardByNumber) (List.forall_mem_cons.mpr ⟨mo_X7_lowestCard, fun _ h => absurd h List.not_mem_nil⟩) rfl

theorem v_X7_cardByNumber_0 (g : mG) (M : mM) (P : mP) (c n : Int32)
    (h : mRun (mSx g) (f_X7_cardByNumber g) P (4, [some (.inl c), some (.inl n), some (.inl c), some (.inl (nI 0))], [], M)) :
    mRun (mSx g) (f_X7_cardByNumber g) P (0, [some (.inl c), some (.inl n), none, none], [], M) := mRun.vc (m_X7_cardByNumber g) [4] 5 h

theorem v_X7_cardByNumber_1 (g : mG) (M : mM) (P : mP) (c n r k : Int32)
    (h : (n ≤ k → P (some (.inl (fLow r))) M) ∧ (¬ n ≤ k → mRun (mSx g) (f_X7_cardByNumber g) P (4, [some (.inl c), some (.inl n), some (.inl (r &&& (r - (nI 1)))), some (.inl (k + (nI 1)))], [], M))) :
    mRun (mSx g) (f_X7_cardByNumber g) P (4, [some (.inl c), some (.inl n), some (.inl r), some (.inl k)], [], M) := mRun.vc (m_X7_cardByNumber g) [4] 12 h

theorem run_X7_cardByNumber_1 (g : mG) (P : mP) (M : mM) (c : Int32) (n : Nat) (hn : n < 1000) (hP : P (some (.inl (fLow (rmv c n)))) M) :
    ∀ j k, k + j = n → mRun (mSx g) (f_X7_cardByNumber g) P (4, [some (.inl c), some (.inl (nI n)), some (.inl (rmv c k)), some (.inl (nI k))], [], M)
  | 0, k, h => by
    obtain rfl : k = n := by omega
    exact v_X7_cardByNumber_1 g M P c _ _ _ ⟨fun _ => hP, fun z => absurd (nI_le (Nat.le_refl k) (by omega)) z⟩
  | j + 1, k, h => by
    refine v_X7_cardByNumber_1 g M P c _ _ _ ⟨fun z => absurd z (nI_ge (by omega) (by omega)), fun _ => ?_⟩
    have := run_X7_cardByNumber_1 g P M c n hn hP j (k + 1) (by omega)
    rw [nI_add]
    exact this
theorem run_X7_cardByNumber : mRunOf 4 t_X7_cardByNumber f_X7_cardByNumber := fun g as M P hT => by
  obtain ⟨⟨n, c⟩, ⟨rfl, hn⟩, hP⟩ := hT
  exact ⟨Nat.le_of_ble_eq_true rfl, v_X7_cardByNumber_0 g M P c (nI n) (run_X7_cardByNumber_1 g P M c n hn (hP _ _ ⟨rfl, rfl⟩) n 0 (by omega))⟩
theorem ok_X7_cardByNumber : mOK yX7_cardByNumber cX7_cardByNumber 4 (some .int) 3 t_X7_cardByNumber := mOK.of f_X7_cardByNumber (by decide) (fun _ => rfl) (fun g => mCodeOK kk_X7_cardByNumber) (fun g => mFldL fk_RX7 rfl) (fun g idx v h => by cases h) (fun g idx v h => by cases h) (mCalL (l := l_X7_cardByNumber) (List.forall_mem_cons.mpr ⟨mSite.S (idx := 236) ok_X7_lowestCard (by decide) (by decide) wc_X7_lowestCard wk_RX7_236 wt_X7_lowestCard wn_RX7 wd_X7_lowestCard, fun _ h => absurd h List.not_mem_nil⟩) (fun _ => rfl)) run_X7_cardByNumber

