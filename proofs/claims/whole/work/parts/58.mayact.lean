/-! ===== CLASS TrickHouse: may an act be? ===== -/
def sameSide (T : aT) : Prop := (T.2.1.2.1.map fun q => q.2.2 % 2) = some (T.2.1.1.1 % 2)
theorem sameSide_t {T : aT} {n t q : Nat} (h : T.2.1.2.1 = some (n, t, q)) : sameSide T ↔ q % 2 = T.2.1.1.1 % 2 := by
  unfold sameSide
  rw [h]
  simp
def dSame (T : aT) : Bool := decide ((T.2.1.2.1.map fun q => q.2.2 % 2) = some (T.2.1.1.1 % 2))
def dTime (T : aT) (w : Nat) : Bool :=
  if w = 1 ∨ w = 2 then decide (T.1.1 = 1) else if w = 3 then decide (T.1.1 = 1) && (T.2.1.2.1.isSome && (!dSame T && decide (T.2.1.1.2.1 = 0)))
  else if w = 4 then decide (T.1.1 = 1) && (T.2.1.2.1.isSome && (dSame T && decide (T.2.1.1.2.1 = 1))) else if w = 5 then decide (T.1.1 = 2) else if w = 6 then dLate T else decide (T.1.1 = 0)
def dNum (w : Nat) (n : Int32) : Bool := if w = 1 then decide (nI 4 ≤ n) && decide (n ≤ nI 8) else if w = 5 then decide (0 ≤ n) && decide (n < nI 8) else if w = 6 then decide (0 ≤ n) && decide (n ≤ nI 8) else if w = 7 then decide (0 ≤ n) && decide (n < nI 4) else if w = 8 then decide (0 ≤ n) && decide (n < nI 3) else true
def rRef (T : aT) (c w : Nat) (n : Int32) : Int32 := if 90 ≤ c then -4 else if dTime T w = true then (if dNum w n = true then 0 else -2) else -3
def k_X7_fitsWord : List (Nat × mI) := [(0, .iload_n 0, 1, 0, 0, []),
  (1, .tableswitch 126 1 8 #[47, 126, 126, 126, 64, 80, 96, 111], 47, 127, 0, [(nI 1, 48), (nI 2, 127), (nI 3, 127), (nI 4, 127), (nI 5, 65), (nI 6, 81), (nI 7, 97), (nI 8, 112)]),
  (48, .iload_n 1, 1, 1, 0, []),
  (49, .iconst 4, 1, 0, nI 4, []),
  (50, .if_icmp .lt 13, 3, 63, 0, []),
  (53, .iload_n 1, 1, 1, 0, []),
  (54, .bipush 8, 2, 0, nI 8, []),
  (56, .if_icmp .gt 7, 3, 63, 0, []),
  (59, .iconst 1, 1, 0, nI 1, []),
  (60, .goto 4, 3, 64, 0, []),
  (63, .iconst 0, 1, 0, nI 0, []),
  (64, .ireturn, 1, 0, 0, []),
  (65, .iload_n 1, 1, 1, 0, []),
  (66, .ifCond .lt 13, 3, 79, 0, []),
  (69, .iload_n 1, 1, 1, 0, []),
  (70, .bipush 8, 2, 0, nI 8, []),
  (72, .if_icmp .ge 7, 3, 79, 0, []),
  (75, .iconst 1, 1, 0, nI 1, []),
  (76, .goto 4, 3, 80, 0, []),
  (79, .iconst 0, 1, 0, nI 0, []),
  (80, .ireturn, 1, 0, 0, []),
  (81, .iload_n 1, 1, 1, 0, []),
  (82, .ifCond .lt 13, 3, 95, 0, []),
  (85, .iload_n 1, 1, 1, 0, []),
  (86, .bipush 8, 2, 0, nI 8, []),
  (88, .if_icmp .gt 7, 3, 95, 0, []),
  (91, .iconst 1, 1, 0, nI 1, []),
  (92, .goto 4, 3, 96, 0, []),
  (95, .iconst 0, 1, 0, nI 0, []),
  (96, .ireturn, 1, 0, 0, []),
  (97, .iload_n 1, 1, 1, 0, []),
  (98, .ifCond .lt 12, 3, 110, 0, []),
  (101, .iload_n 1, 1, 1, 0, []),
  (102, .iconst 4, 1, 0, nI 4, []),
  (103, .if_icmp .ge 7, 3, 110, 0, []),
  (106, .iconst 1, 1, 0, nI 1, []),
  (107, .goto 4, 3, 111, 0, []),
  (110, .iconst 0, 1, 0, nI 0, []),
  (111, .ireturn, 1, 0, 0, []),
  (112, .iload_n 1, 1, 1, 0, []),
  (113, .ifCond .lt 12, 3, 125, 0, []),
  (116, .iload_n 1, 1, 1, 0, []),
  (117, .iconst 3, 1, 0, nI 3, []),
  (118, .if_icmp .ge 7, 3, 125, 0, []),
  (121, .iconst 1, 1, 0, nI 1, []),
  (122, .goto 4, 3, 126, 0, []),
  (125, .iconst 0, 1, 0, nI 0, []),
  (126, .ireturn, 1, 0, 0, []),
  (127, .iconst 1, 1, 0, nI 1, []),
  (128, .ireturn, 1, 0, 0, [])]
theorem kk_X7_fitsWord : (k_X7_fitsWord.all fun e => mChk cX7_fitsWord e.1 e.2) = true := by decide +kernel
def l_X7_fitsWord : List (Nat × Nat × (mG → mT)) := []
def f_X7_fitsWord (g : mG) : mF := (mLk k_X7_fitsWord, mLk fl_RX7, mLk (l_X7_fitsWord.map fun e => (e.1, e.2.1, e.2.2 g)), mLk ([] : List (Nat × mV)), mLk ([] : List (Nat × mV)), some .boolean)
theorem m_X7_fitsWord (g : mG) : mMono (f_X7_fitsWord g) := mMonoL (g := g) (l := l_X7_fitsWord) (fun _ h => absurd h List.not_mem_nil) rfl
def t_X7_fitsWord : mG → mT := mSV f_X7_fitsWord 2 51
theorem mo_X7_fitsWord : mMn t_X7_fitsWord := mSV_mono m_X7_fitsWord
theorem ok_X7_fitsWord : mOK yX7_fitsWord cX7_fitsWord 2 (some .boolean) 1 t_X7_fitsWord := mOK.of f_X7_fitsWord (by decide) (fun _ => rfl) (fun g => mCodeOK kk_X7_fitsWord) (fun g => mFldL fk_RX7 rfl) (fun g idx v h => by cases h) (fun g idx v h => by cases h) (mCalL (l := l_X7_fitsWord) (fun _ h => absurd h List.not_mem_nil) (fun _ => rfl)) (mSV_run m_X7_fitsWord)

def pre_X7_refusalOf (q : aZ × Nat × Int32) (as : List mV) (M : mM) : Prop := as = [.inr (some 0), .inl (nI q.2.1), .inl q.2.2] ∧ q.2.1 < 9 ∧ RpC M q.1 ∧ zInv q.1
def post_X7_refusalOf (q : aZ × Nat × Int32) (_ : List mV) (M : mM) (v : Int32) (M' : mM) : Prop := v = rRef (zT q.1.2.1) q.1.2.1.length q.2.1 q.2.2 ∧ M' = M
abbrev t_X7_refusalOf : mG → mT := mRi pre_X7_refusalOf post_X7_refusalOf
theorem mo_X7_refusalOf : mMn t_X7_refusalOf := mRi_mono
theorem rv_X7_refusalOf : mHasR yX7_refusalOf 2 t_X7_refusalOf := by
  intro g as M P hT hl
  obtain ⟨q, ⟨h2, -⟩, -⟩ := hT
  exact ⟨_, _, h2, is_X7 g _ rfl⟩
def k_X7_refusalOf : List (Nat × mI) := [(0, .aload_n 0, 1, 0, 0, []),
  (1, .getfield 19, 3, 0, 0, []),
  (4, .getfield 96, 3, 0, 0, []),
  (7, .bipush 90, 2, 0, nI 90, []),
  (9, .if_icmp .lt 6, 3, 15, 0, []),
  (12, .bipush (-4), 2, 0, -4, []),
  (14, .ireturn, 1, 0, 0, []),
  (15, .aload_n 0, 1, 0, 0, []),
  (16, .getfield 29, 3, 0, 0, []),
  (19, .iload_n 1, 1, 1, 0, []),
  (20, .invokevirtual 294, 3, 0, 0, []),
  (23, .ifCond .ne 6, 3, 29, 0, []),
  (26, .bipush (-3), 2, 0, -3, []),
  (28, .ireturn, 1, 0, 0, []),
  (29, .iload_n 1, 1, 1, 0, []),
  (30, .iload_n 2, 1, 2, 0, []),
  (31, .invokestatic 297, 3, 0, 0, []),
  (34, .ifCond .eq 7, 3, 41, 0, []),
  (37, .iconst 0, 1, 0, nI 0, []),
  (38, .goto 5, 3, 43, 0, []),
  (41, .bipush (-2), 2, 0, -2, []),
  (43, .ireturn, 1, 0, 0, [])]
theorem kk_X7_refusalOf : (k_X7_refusalOf.all fun e => mChk cX7_refusalOf e.1 e.2) = true := by decide +kernel
def l_X7_refusalOf : List (Nat × Nat × (mG → mT)) := [(3 * 294, 1 + 1, t_X5_isTimeFor), (3 * 297 + 1, 2, t_X7_fitsWord)]
def f_X7_refusalOf (g : mG) : mF := (mLk k_X7_refusalOf, mLk fl_RX7, mLk (l_X7_refusalOf.map fun e => (e.1, e.2.1, e.2.2 g)), mLk ([] : List (Nat × mV)), mLk ([] : List (Nat × mV)), some .int)
theorem m_X7_refusalOf (g : mG) : mMono (f_X7_refusalOf g) := mMonoL (g := g) (l := l_X7_refusalOf) (List.forall_mem_cons.mpr ⟨mo_X5_isTimeFor, List.forall_mem_cons.mpr ⟨mo_X7_fitsWord, fun _ h => absurd h List.not_mem_nil⟩⟩) rfl

theorem v_rf_0 (g : mG) (M : mM) (P : mP) (w n : Int32)
    (h : ((M 3 4) < (nI 90) → (w = (nI 1) → (¬ (M 13 3) = (nI 1) → ((nI 0) = 0 ∨ (nI 0) = 1) ∧ (mRun (mSx g) (f_X7_refusalOf g) P (23, [some (.inr (some 0)), some (.inl w), some (.inl n)], [.inl (nI 0)], M))) ∧ (¬ (¬ (M 13 3) = (nI 1)) → ((nI 1) = 0 ∨ (nI 1) = 1) ∧ (mRun (mSx g) (f_X7_refusalOf g) P (23, [some (.inr (some 0)), some (.inl w), some (.inl n)], [.inl (nI 1)], M)))) ∧ (¬ w = (nI 1) → (w = (nI 2) → (¬ (M 13 3) = (nI 1) → ((nI 0) = 0 ∨ (nI 0) = 1) ∧ (mRun (mSx g) (f_X7_refusalOf g) P (23, [some (.inr (some 0)), some (.inl w), some (.inl n)], [.inl (nI 0)], M))) ∧ (¬ (¬ (M 13 3) = (nI 1)) → ((nI 1) = 0 ∨ (nI 1) = 1) ∧ (mRun (mSx g) (f_X7_refusalOf g) P (23, [some (.inr (some 0)), some (.inl w), some (.inl n)], [.inl (nI 1)], M)))) ∧ (¬ w = (nI 2) → (w = (nI 3) → (¬ (M 13 3) = (nI 1) → ((nI 0) = 0 ∨ (nI 0) = 1) ∧ (mRun (mSx g) (f_X7_refusalOf g) P (23, [some (.inr (some 0)), some (.inl w), some (.inl n)], [.inl (nI 0)], M))) ∧ (¬ (¬ (M 13 3) = (nI 1)) → ((M 14 2) = (-1) → ((nI 0) = 0 ∨ (nI 0) = 1) ∧ (((nI 0) = 0 → ((nI 0) = 0 ∨ (nI 0) = 1) ∧ (mRun (mSx g) (f_X7_refusalOf g) P (23, [some (.inr (some 0)), some (.inl w), some (.inl n)], [.inl (nI 0)], M))) ∧ (¬ ((nI 0) = 0) → ((nI 1) = 0 ∨ (nI 1) = 1) ∧ (mRun (mSx g) (f_X7_refusalOf g) P (23, [some (.inr (some 0)), some (.inl w), some (.inl n)], [.inl (nI 1)], M))))) ∧ (¬ ((M 14 2) = (-1)) → ((M 14 4) = ((M 14 1) &&& (nI 1)) → ((nI 0) = 0 ∨ (nI 0) = 1) ∧ (((nI 0) = 0 → ((nI 0) = 0 ∨ (nI 0) = 1) ∧ (mRun (mSx g) (f_X7_refusalOf g) P (23, [some (.inr (some 0)), some (.inl w), some (.inl n)], [.inl (nI 0)], M))) ∧ (¬ ((nI 0) = 0) → ((nI 1) = 0 ∨ (nI 1) = 1) ∧ (mRun (mSx g) (f_X7_refusalOf g) P (23, [some (.inr (some 0)), some (.inl w), some (.inl n)], [.inl (nI 1)], M))))) ∧ (¬ ((M 14 4) = ((M 14 1) &&& (nI 1))) → (¬ (M 14 5) = 0 → ((nI 0) = 0 ∨ (nI 0) = 1) ∧ (((nI 0) = 0 → ((nI 0) = 0 ∨ (nI 0) = 1) ∧ (mRun (mSx g) (f_X7_refusalOf g) P (23, [some (.inr (some 0)), some (.inl w), some (.inl n)], [.inl (nI 0)], M))) ∧ (¬ ((nI 0) = 0) → ((nI 1) = 0 ∨ (nI 1) = 1) ∧ (mRun (mSx g) (f_X7_refusalOf g) P (23, [some (.inr (some 0)), some (.inl w), some (.inl n)], [.inl (nI 1)], M))))) ∧ (¬ (¬ (M 14 5) = 0) → ((nI 1) = 0 ∨ (nI 1) = 1) ∧ (((nI 1) = 0 → ((nI 0) = 0 ∨ (nI 0) = 1) ∧ (mRun (mSx g) (f_X7_refusalOf g) P (23, [some (.inr (some 0)), some (.inl w), some (.inl n)], [.inl (nI 0)], M))) ∧ (¬ ((nI 1) = 0) → ((nI 1) = 0 ∨ (nI 1) = 1) ∧ (mRun (mSx g) (f_X7_refusalOf g) P (23, [some (.inr (some 0)), some (.inl w), some (.inl n)], [.inl (nI 1)], M))))))))) ∧ (¬ w = (nI 3) → (w = (nI 4) → (¬ (M 13 3) = (nI 1) → ((nI 0) = 0 ∨ (nI 0) = 1) ∧ (mRun (mSx g) (f_X7_refusalOf g) P (23, [some (.inr (some 0)), some (.inl w), some (.inl n)], [.inl (nI 0)], M))) ∧ (¬ (¬ (M 13 3) = (nI 1)) → ((M 14 2) = (-1) → ((nI 0) = 0 ∨ (nI 0) = 1) ∧ (((nI 0) = 0 → ((nI 0) = 0 ∨ (nI 0) = 1) ∧ (mRun (mSx g) (f_X7_refusalOf g) P (23, [some (.inr (some 0)), some (.inl w), some (.inl n)], [.inl (nI 0)], M))) ∧ (¬ ((nI 0) = 0) → ((nI 1) = 0 ∨ (nI 1) = 1) ∧ (mRun (mSx g) (f_X7_refusalOf g) P (23, [some (.inr (some 0)), some (.inl w), some (.inl n)], [.inl (nI 1)], M))))) ∧ (¬ ((M 14 2) = (-1)) → (¬ (M 14 4) = ((M 14 1) &&& (nI 1)) → ((nI 0) = 0 ∨ (nI 0) = 1) ∧ (((nI 0) = 0 → ((nI 0) = 0 ∨ (nI 0) = 1) ∧ (mRun (mSx g) (f_X7_refusalOf g) P (23, [some (.inr (some 0)), some (.inl w), some (.inl n)], [.inl (nI 0)], M))) ∧ (¬ ((nI 0) = 0) → ((nI 1) = 0 ∨ (nI 1) = 1) ∧ (mRun (mSx g) (f_X7_refusalOf g) P (23, [some (.inr (some 0)), some (.inl w), some (.inl n)], [.inl (nI 1)], M))))) ∧ (¬ (¬ (M 14 4) = ((M 14 1) &&& (nI 1))) → (¬ (M 14 5) = (nI 1) → ((nI 0) = 0 ∨ (nI 0) = 1) ∧ (((nI 0) = 0 → ((nI 0) = 0 ∨ (nI 0) = 1) ∧ (mRun (mSx g) (f_X7_refusalOf g) P (23, [some (.inr (some 0)), some (.inl w), some (.inl n)], [.inl (nI 0)], M))) ∧ (¬ ((nI 0) = 0) → ((nI 1) = 0 ∨ (nI 1) = 1) ∧ (mRun (mSx g) (f_X7_refusalOf g) P (23, [some (.inr (some 0)), some (.inl w), some (.inl n)], [.inl (nI 1)], M))))) ∧ (¬ (¬ (M 14 5) = (nI 1)) → ((nI 1) = 0 ∨ (nI 1) = 1) ∧ (((nI 1) = 0 → ((nI 0) = 0 ∨ (nI 0) = 1) ∧ (mRun (mSx g) (f_X7_refusalOf g) P (23, [some (.inr (some 0)), some (.inl w), some (.inl n)], [.inl (nI 0)], M))) ∧ (¬ ((nI 1) = 0) → ((nI 1) = 0 ∨ (nI 1) = 1) ∧ (mRun (mSx g) (f_X7_refusalOf g) P (23, [some (.inr (some 0)), some (.inl w), some (.inl n)], [.inl (nI 1)], M))))))))) ∧ (¬ w = (nI 4) → (w = (nI 5) → (¬ (M 13 3) = (nI 2) → ((nI 0) = 0 ∨ (nI 0) = 1) ∧ (mRun (mSx g) (f_X7_refusalOf g) P (23, [some (.inr (some 0)), some (.inl w), some (.inl n)], [.inl (nI 0)], M))) ∧ (¬ (¬ (M 13 3) = (nI 2)) → ((nI 1) = 0 ∨ (nI 1) = 1) ∧ (mRun (mSx g) (f_X7_refusalOf g) P (23, [some (.inr (some 0)), some (.inl w), some (.inl n)], [.inl (nI 1)], M)))) ∧ (¬ w = (nI 5) → (w = (nI 6) → (¬ (M 13 3) = (nI 2) → ((nI 0) = 0 ∨ (nI 0) = 1) ∧ (((nI 0) = 0 ∨ (nI 0) = 1) ∧ (mRun (mSx g) (f_X7_refusalOf g) P (23, [some (.inr (some 0)), some (.inl w), some (.inl n)], [.inl (nI 0)], M)))) ∧ (¬ (¬ (M 13 3) = (nI 2)) → ¬ (nI 4) = 0 ∧ (((((nI 3) < ((nI 8) - ((M 16 7) / (nI 4))) → ((nI 0) = 0 ∨ (nI 0) = 1) ∧ (((nI 0) = 0 ∨ (nI 0) = 1) ∧ (mRun (mSx g) (f_X7_refusalOf g) P (23, [some (.inr (some 0)), some (.inl w), some (.inl n)], [.inl (nI 0)], M)))) ∧ (¬ ((nI 3) < ((nI 8) - ((M 16 7) / (nI 4)))) → ((nI 1) = 0 ∨ (nI 1) = 1) ∧ (((nI 1) = 0 ∨ (nI 1) = 1) ∧ (mRun (mSx g) (f_X7_refusalOf g) P (23, [some (.inr (some 0)), some (.inl w), some (.inl n)], [.inl (nI 1)], M))))))))) ∧ (¬ w = (nI 6) → (¬ (M 13 3) = 0 → ((nI 0) = 0 ∨ (nI 0) = 1) ∧ (mRun (mSx g) (f_X7_refusalOf g) P (23, [some (.inr (some 0)), some (.inl w), some (.inl n)], [.inl (nI 0)], M))) ∧ (¬ (¬ (M 13 3) = 0) → ((nI 1) = 0 ∨ (nI 1) = 1) ∧ (mRun (mSx g) (f_X7_refusalOf g) P (23, [some (.inr (some 0)), some (.inl w), some (.inl n)], [.inl (nI 1)], M)))))))))) ∧ (¬ ((M 3 4) < (nI 90)) → P (some (.inl (-4))) M)) :
    mRun (mSx g) (f_X7_refusalOf g) P (0, [some (.inr (some 0)), some (.inl w), some (.inl n)], [], M) := mRun.vc (m_X7_refusalOf g) [23] 10 h

theorem v_rf_23 (g : mG) (M : mM) (P : mP) (w n b : Int32)
    (h : (¬ b = 0 → (w = (nI 1) → (n < (nI 4) → ((nI 0) = 0 ∨ (nI 0) = 1) ∧ (((nI 0) = 0 → P (some (.inl (-2))) M) ∧ (¬ ((nI 0) = 0) → P (some (.inl (nI 0))) M))) ∧ (¬ (n < (nI 4)) → ((nI 8) < n → ((nI 0) = 0 ∨ (nI 0) = 1) ∧ (((nI 0) = 0 → P (some (.inl (-2))) M) ∧ (¬ ((nI 0) = 0) → P (some (.inl (nI 0))) M))) ∧ (¬ ((nI 8) < n) → ((nI 1) = 0 ∨ (nI 1) = 1) ∧ (((nI 1) = 0 → P (some (.inl (-2))) M) ∧ (¬ ((nI 1) = 0) → P (some (.inl (nI 0))) M))))) ∧ (¬ w = (nI 1) → (w = (nI 2) → ((nI 1) = 0 ∨ (nI 1) = 1) ∧ (((nI 1) = 0 → P (some (.inl (-2))) M) ∧ (¬ ((nI 1) = 0) → P (some (.inl (nI 0))) M))) ∧ (¬ w = (nI 2) → (w = (nI 3) → ((nI 1) = 0 ∨ (nI 1) = 1) ∧ (((nI 1) = 0 → P (some (.inl (-2))) M) ∧ (¬ ((nI 1) = 0) → P (some (.inl (nI 0))) M))) ∧ (¬ w = (nI 3) → (w = (nI 4) → ((nI 1) = 0 ∨ (nI 1) = 1) ∧ (((nI 1) = 0 → P (some (.inl (-2))) M) ∧ (¬ ((nI 1) = 0) → P (some (.inl (nI 0))) M))) ∧ (¬ w = (nI 4) → (w = (nI 5) → (n < 0 → ((nI 0) = 0 ∨ (nI 0) = 1) ∧ (((nI 0) = 0 → P (some (.inl (-2))) M) ∧ (¬ ((nI 0) = 0) → P (some (.inl (nI 0))) M))) ∧ (¬ (n < 0) → ((nI 8) ≤ n → ((nI 0) = 0 ∨ (nI 0) = 1) ∧ (((nI 0) = 0 → P (some (.inl (-2))) M) ∧ (¬ ((nI 0) = 0) → P (some (.inl (nI 0))) M))) ∧ (¬ ((nI 8) ≤ n) → ((nI 1) = 0 ∨ (nI 1) = 1) ∧ (((nI 1) = 0 → P (some (.inl (-2))) M) ∧ (¬ ((nI 1) = 0) → P (some (.inl (nI 0))) M))))) ∧ (¬ w = (nI 5) → (w = (nI 6) → (n < 0 → ((nI 0) = 0 ∨ (nI 0) = 1) ∧ (((nI 0) = 0 → P (some (.inl (-2))) M) ∧ (¬ ((nI 0) = 0) → P (some (.inl (nI 0))) M))) ∧ (¬ (n < 0) → ((nI 8) < n → ((nI 0) = 0 ∨ (nI 0) = 1) ∧ (((nI 0) = 0 → P (some (.inl (-2))) M) ∧ (¬ ((nI 0) = 0) → P (some (.inl (nI 0))) M))) ∧ (¬ ((nI 8) < n) → ((nI 1) = 0 ∨ (nI 1) = 1) ∧ (((nI 1) = 0 → P (some (.inl (-2))) M) ∧ (¬ ((nI 1) = 0) → P (some (.inl (nI 0))) M))))) ∧ (¬ w = (nI 6) → (w = (nI 7) → (n < 0 → ((nI 0) = 0 ∨ (nI 0) = 1) ∧ (((nI 0) = 0 → P (some (.inl (-2))) M) ∧ (¬ ((nI 0) = 0) → P (some (.inl (nI 0))) M))) ∧ (¬ (n < 0) → ((nI 4) ≤ n → ((nI 0) = 0 ∨ (nI 0) = 1) ∧ (((nI 0) = 0 → P (some (.inl (-2))) M) ∧ (¬ ((nI 0) = 0) → P (some (.inl (nI 0))) M))) ∧ (¬ ((nI 4) ≤ n) → ((nI 1) = 0 ∨ (nI 1) = 1) ∧ (((nI 1) = 0 → P (some (.inl (-2))) M) ∧ (¬ ((nI 1) = 0) → P (some (.inl (nI 0))) M))))) ∧ (¬ w = (nI 7) → (w = (nI 8) → (n < 0 → ((nI 0) = 0 ∨ (nI 0) = 1) ∧ (((nI 0) = 0 → P (some (.inl (-2))) M) ∧ (¬ ((nI 0) = 0) → P (some (.inl (nI 0))) M))) ∧ (¬ (n < 0) → ((nI 3) ≤ n → ((nI 0) = 0 ∨ (nI 0) = 1) ∧ (((nI 0) = 0 → P (some (.inl (-2))) M) ∧ (¬ ((nI 0) = 0) → P (some (.inl (nI 0))) M))) ∧ (¬ ((nI 3) ≤ n) → ((nI 1) = 0 ∨ (nI 1) = 1) ∧ (((nI 1) = 0 → P (some (.inl (-2))) M) ∧ (¬ ((nI 1) = 0) → P (some (.inl (nI 0))) M))))) ∧ (¬ w = (nI 8) → ((nI 1) = 0 ∨ (nI 1) = 1) ∧ (((nI 1) = 0 → P (some (.inl (-2))) M) ∧ (¬ ((nI 1) = 0) → P (some (.inl (nI 0))) M))))))))))) ∧ (¬ (¬ b = 0) → P (some (.inl (-3))) M)) :
    mRun (mSx g) (f_X7_refusalOf g) P (23, [some (.inr (some 0)), some (.inl w), some (.inl n)], [.inl b], M) := mRun.vc (m_X7_refusalOf g) [] 8 h

theorem rf_23 (g : mG) (M : mM) (P : mP) (w : Nat) (hw : w < 9) (n b : Int32) (d : Bool) (hb : b = mb (d = true)) (hP : P (some (.inl (if d = true then (if dNum w n = true then 0 else -2) else -3))) M) :
    mRun (mSx g) (f_X7_refusalOf g) P (23, [some (.inr (some 0)), some (.inl (nI w)), some (.inl n)], [.inl b], M) := by
  refine v_rf_23 g M P (nI w) n b ?_
  rw [hb]
  cases d with
  | false =>
    rw [mb_f (by decide)]
    exact ⟨fun z => absurd rfl z, fun _ => hP⟩
  | true =>
    rw [mb_t rfl]
    refine ⟨fun _ => ?_, fun z => absurd (by decide) z⟩
    rw [if_pos rfl] at hP
    rcases (by omega : w = 0 ∨ w = 1 ∨ w = 2 ∨ w = 3 ∨ w = 4 ∨ w = 5 ∨ w = 6 ∨ w = 7 ∨ w = 8) with rfl | rfl | rfl | rfl | rfl | rfl | rfl | rfl | rfl
    · refine ⟨fun h1 => absurd h1 (by decide), fun h1 => ?_⟩
      refine ⟨fun h7 => absurd h7 (by decide), fun h7 => ?_⟩
      refine ⟨fun h9 => absurd h9 (by decide), fun h9 => ?_⟩
      refine ⟨fun h11 => absurd h11 (by decide), fun h11 => ?_⟩
      refine ⟨fun h13 => absurd h13 (by decide), fun h13 => ?_⟩
      refine ⟨fun h19 => absurd h19 (by decide), fun h19 => ?_⟩
      refine ⟨fun h25 => absurd h25 (by decide), fun h25 => ?_⟩
      refine ⟨fun h31 => absurd h31 (by decide), fun h31 => ?_⟩
      refine ⟨Or.inr rfl, ?_⟩
      refine ⟨fun h37 => absurd h37 (by decide), fun h37 => ?_⟩
      exact hP
    · refine ⟨fun h1 => ?_, fun h1 => absurd (by decide) h1⟩
      refine ⟨fun h2 => ?_, fun h2 => ?_⟩
      · refine ⟨Or.inl rfl, ?_⟩
        refine ⟨fun h3 => ?_, fun h3 => absurd (by decide) h3⟩
        have hd : (decide (nI 4 ≤ n) && decide (n ≤ nI 8)) = false := by
          simp only [Bool.and_eq_true, Bool.and_eq_false_iff, decide_eq_true_eq, decide_eq_false_iff_not]
          simp (disch := omega) only [fa_lt, fa_le, nI_toInt, Int32.toInt_zero] at h2 ⊢
          omega
        have hd2 : dNum 1 n = false := hd
        rw [if_neg (by rw [hd2]; decide)] at hP
        exact hP
      · refine ⟨fun h4 => ?_, fun h4 => ?_⟩
        · refine ⟨Or.inl rfl, ?_⟩
          refine ⟨fun h5 => ?_, fun h5 => absurd (by decide) h5⟩
          have hd : (decide (nI 4 ≤ n) && decide (n ≤ nI 8)) = false := by
            simp only [Bool.and_eq_true, Bool.and_eq_false_iff, decide_eq_true_eq, decide_eq_false_iff_not]
            simp (disch := omega) only [fa_lt, fa_le, nI_toInt, Int32.toInt_zero] at h2 h4 ⊢
            omega
          have hd2 : dNum 1 n = false := hd
          rw [if_neg (by rw [hd2]; decide)] at hP
          exact hP
        · refine ⟨Or.inr rfl, ?_⟩
          refine ⟨fun h6 => absurd h6 (by decide), fun h6 => ?_⟩
          have hd : (decide (nI 4 ≤ n) && decide (n ≤ nI 8)) = true := by
            simp only [Bool.and_eq_true, Bool.and_eq_false_iff, decide_eq_true_eq, decide_eq_false_iff_not]
            simp (disch := omega) only [fa_lt, fa_le, nI_toInt, Int32.toInt_zero] at h2 h4 ⊢
            omega
          have hd2 : dNum 1 n = true := hd
          rw [if_pos hd2] at hP
          exact hP
    · refine ⟨fun h1 => absurd h1 (by decide), fun h1 => ?_⟩
      refine ⟨fun h7 => ?_, fun h7 => absurd (by decide) h7⟩
      refine ⟨Or.inr rfl, ?_⟩
      refine ⟨fun h8 => absurd h8 (by decide), fun h8 => ?_⟩
      exact hP
    · refine ⟨fun h1 => absurd h1 (by decide), fun h1 => ?_⟩
      refine ⟨fun h7 => absurd h7 (by decide), fun h7 => ?_⟩
      refine ⟨fun h9 => ?_, fun h9 => absurd (by decide) h9⟩
      refine ⟨Or.inr rfl, ?_⟩
      refine ⟨fun h10 => absurd h10 (by decide), fun h10 => ?_⟩
      exact hP
    · refine ⟨fun h1 => absurd h1 (by decide), fun h1 => ?_⟩
      refine ⟨fun h7 => absurd h7 (by decide), fun h7 => ?_⟩
      refine ⟨fun h9 => absurd h9 (by decide), fun h9 => ?_⟩
      refine ⟨fun h11 => ?_, fun h11 => absurd (by decide) h11⟩
      refine ⟨Or.inr rfl, ?_⟩
      refine ⟨fun h12 => absurd h12 (by decide), fun h12 => ?_⟩
      exact hP
    · refine ⟨fun h1 => absurd h1 (by decide), fun h1 => ?_⟩
      refine ⟨fun h7 => absurd h7 (by decide), fun h7 => ?_⟩
      refine ⟨fun h9 => absurd h9 (by decide), fun h9 => ?_⟩
      refine ⟨fun h11 => absurd h11 (by decide), fun h11 => ?_⟩
      refine ⟨fun h13 => ?_, fun h13 => absurd (by decide) h13⟩
      refine ⟨fun h14 => ?_, fun h14 => ?_⟩
      · refine ⟨Or.inl rfl, ?_⟩
        refine ⟨fun h15 => ?_, fun h15 => absurd (by decide) h15⟩
        have hd : (decide (0 ≤ n) && decide (n < nI 8)) = false := by
          simp only [Bool.and_eq_true, Bool.and_eq_false_iff, decide_eq_true_eq, decide_eq_false_iff_not]
          simp (disch := omega) only [fa_lt, fa_le, nI_toInt, Int32.toInt_zero] at h14 ⊢
          omega
        have hd2 : dNum 5 n = false := hd
        rw [if_neg (by rw [hd2]; decide)] at hP
        exact hP
      · refine ⟨fun h16 => ?_, fun h16 => ?_⟩
        · refine ⟨Or.inl rfl, ?_⟩
          refine ⟨fun h17 => ?_, fun h17 => absurd (by decide) h17⟩
          have hd : (decide (0 ≤ n) && decide (n < nI 8)) = false := by
            simp only [Bool.and_eq_true, Bool.and_eq_false_iff, decide_eq_true_eq, decide_eq_false_iff_not]
            simp (disch := omega) only [fa_lt, fa_le, nI_toInt, Int32.toInt_zero] at h14 h16 ⊢
            omega
          have hd2 : dNum 5 n = false := hd
          rw [if_neg (by rw [hd2]; decide)] at hP
          exact hP
        · refine ⟨Or.inr rfl, ?_⟩
          refine ⟨fun h18 => absurd h18 (by decide), fun h18 => ?_⟩
          have hd : (decide (0 ≤ n) && decide (n < nI 8)) = true := by
            simp only [Bool.and_eq_true, Bool.and_eq_false_iff, decide_eq_true_eq, decide_eq_false_iff_not]
            simp (disch := omega) only [fa_lt, fa_le, nI_toInt, Int32.toInt_zero] at h14 h16 ⊢
            omega
          have hd2 : dNum 5 n = true := hd
          rw [if_pos hd2] at hP
          exact hP
    · refine ⟨fun h1 => absurd h1 (by decide), fun h1 => ?_⟩
      refine ⟨fun h7 => absurd h7 (by decide), fun h7 => ?_⟩
      refine ⟨fun h9 => absurd h9 (by decide), fun h9 => ?_⟩
      refine ⟨fun h11 => absurd h11 (by decide), fun h11 => ?_⟩
      refine ⟨fun h13 => absurd h13 (by decide), fun h13 => ?_⟩
      refine ⟨fun h19 => ?_, fun h19 => absurd (by decide) h19⟩
      refine ⟨fun h20 => ?_, fun h20 => ?_⟩
      · refine ⟨Or.inl rfl, ?_⟩
        refine ⟨fun h21 => ?_, fun h21 => absurd (by decide) h21⟩
        have hd : (decide (0 ≤ n) && decide (n ≤ nI 8)) = false := by
          simp only [Bool.and_eq_true, Bool.and_eq_false_iff, decide_eq_true_eq, decide_eq_false_iff_not]
          simp (disch := omega) only [fa_lt, fa_le, nI_toInt, Int32.toInt_zero] at h20 ⊢
          omega
        have hd2 : dNum 6 n = false := hd
        rw [if_neg (by rw [hd2]; decide)] at hP
        exact hP
      · refine ⟨fun h22 => ?_, fun h22 => ?_⟩
        · refine ⟨Or.inl rfl, ?_⟩
          refine ⟨fun h23 => ?_, fun h23 => absurd (by decide) h23⟩
          have hd : (decide (0 ≤ n) && decide (n ≤ nI 8)) = false := by
            simp only [Bool.and_eq_true, Bool.and_eq_false_iff, decide_eq_true_eq, decide_eq_false_iff_not]
            simp (disch := omega) only [fa_lt, fa_le, nI_toInt, Int32.toInt_zero] at h20 h22 ⊢
            omega
          have hd2 : dNum 6 n = false := hd
          rw [if_neg (by rw [hd2]; decide)] at hP
          exact hP
        · refine ⟨Or.inr rfl, ?_⟩
          refine ⟨fun h24 => absurd h24 (by decide), fun h24 => ?_⟩
          have hd : (decide (0 ≤ n) && decide (n ≤ nI 8)) = true := by
            simp only [Bool.and_eq_true, Bool.and_eq_false_iff, decide_eq_true_eq, decide_eq_false_iff_not]
            simp (disch := omega) only [fa_lt, fa_le, nI_toInt, Int32.toInt_zero] at h20 h22 ⊢
            omega
          have hd2 : dNum 6 n = true := hd
          rw [if_pos hd2] at hP
          exact hP
    · refine ⟨fun h1 => absurd h1 (by decide), fun h1 => ?_⟩
      refine ⟨fun h7 => absurd h7 (by decide), fun h7 => ?_⟩
      refine ⟨fun h9 => absurd h9 (by decide), fun h9 => ?_⟩
      refine ⟨fun h11 => absurd h11 (by decide), fun h11 => ?_⟩
      refine ⟨fun h13 => absurd h13 (by decide), fun h13 => ?_⟩
      refine ⟨fun h19 => absurd h19 (by decide), fun h19 => ?_⟩
      refine ⟨fun h25 => ?_, fun h25 => absurd (by decide) h25⟩
      refine ⟨fun h26 => ?_, fun h26 => ?_⟩
      · refine ⟨Or.inl rfl, ?_⟩
        refine ⟨fun h27 => ?_, fun h27 => absurd (by decide) h27⟩
        have hd : (decide (0 ≤ n) && decide (n < nI 4)) = false := by
          simp only [Bool.and_eq_true, Bool.and_eq_false_iff, decide_eq_true_eq, decide_eq_false_iff_not]
          simp (disch := omega) only [fa_lt, fa_le, nI_toInt, Int32.toInt_zero] at h26 ⊢
          omega
        have hd2 : dNum 7 n = false := hd
        rw [if_neg (by rw [hd2]; decide)] at hP
        exact hP
      · refine ⟨fun h28 => ?_, fun h28 => ?_⟩
        · refine ⟨Or.inl rfl, ?_⟩
          refine ⟨fun h29 => ?_, fun h29 => absurd (by decide) h29⟩
          have hd : (decide (0 ≤ n) && decide (n < nI 4)) = false := by
            simp only [Bool.and_eq_true, Bool.and_eq_false_iff, decide_eq_true_eq, decide_eq_false_iff_not]
            simp (disch := omega) only [fa_lt, fa_le, nI_toInt, Int32.toInt_zero] at h26 h28 ⊢
            omega
          have hd2 : dNum 7 n = false := hd
          rw [if_neg (by rw [hd2]; decide)] at hP
          exact hP
        · refine ⟨Or.inr rfl, ?_⟩
          refine ⟨fun h30 => absurd h30 (by decide), fun h30 => ?_⟩
          have hd : (decide (0 ≤ n) && decide (n < nI 4)) = true := by
            simp only [Bool.and_eq_true, Bool.and_eq_false_iff, decide_eq_true_eq, decide_eq_false_iff_not]
            simp (disch := omega) only [fa_lt, fa_le, nI_toInt, Int32.toInt_zero] at h26 h28 ⊢
            omega
          have hd2 : dNum 7 n = true := hd
          rw [if_pos hd2] at hP
          exact hP
    · refine ⟨fun h1 => absurd h1 (by decide), fun h1 => ?_⟩
      refine ⟨fun h7 => absurd h7 (by decide), fun h7 => ?_⟩
      refine ⟨fun h9 => absurd h9 (by decide), fun h9 => ?_⟩
      refine ⟨fun h11 => absurd h11 (by decide), fun h11 => ?_⟩
      refine ⟨fun h13 => absurd h13 (by decide), fun h13 => ?_⟩
      refine ⟨fun h19 => absurd h19 (by decide), fun h19 => ?_⟩
      refine ⟨fun h25 => absurd h25 (by decide), fun h25 => ?_⟩
      refine ⟨fun h31 => ?_, fun h31 => absurd (by decide) h31⟩
      refine ⟨fun h32 => ?_, fun h32 => ?_⟩
      · refine ⟨Or.inl rfl, ?_⟩
        refine ⟨fun h33 => ?_, fun h33 => absurd (by decide) h33⟩
        have hd : (decide (0 ≤ n) && decide (n < nI 3)) = false := by
          simp only [Bool.and_eq_true, Bool.and_eq_false_iff, decide_eq_true_eq, decide_eq_false_iff_not]
          simp (disch := omega) only [fa_lt, fa_le, nI_toInt, Int32.toInt_zero] at h32 ⊢
          omega
        have hd2 : dNum 8 n = false := hd
        rw [if_neg (by rw [hd2]; decide)] at hP
        exact hP
      · refine ⟨fun h34 => ?_, fun h34 => ?_⟩
        · refine ⟨Or.inl rfl, ?_⟩
          refine ⟨fun h35 => ?_, fun h35 => absurd (by decide) h35⟩
          have hd : (decide (0 ≤ n) && decide (n < nI 3)) = false := by
            simp only [Bool.and_eq_true, Bool.and_eq_false_iff, decide_eq_true_eq, decide_eq_false_iff_not]
            simp (disch := omega) only [fa_lt, fa_le, nI_toInt, Int32.toInt_zero] at h32 h34 ⊢
            omega
          have hd2 : dNum 8 n = false := hd
          rw [if_neg (by rw [hd2]; decide)] at hP
          exact hP
        · refine ⟨Or.inr rfl, ?_⟩
          refine ⟨fun h36 => absurd h36 (by decide), fun h36 => ?_⟩
          have hd : (decide (0 ≤ n) && decide (n < nI 3)) = true := by
            simp only [Bool.and_eq_true, Bool.and_eq_false_iff, decide_eq_true_eq, decide_eq_false_iff_not]
            simp (disch := omega) only [fa_lt, fa_le, nI_toInt, Int32.toInt_zero] at h32 h34 ⊢
            omega
          have hd2 : dNum 8 n = true := hd
          rw [if_pos hd2] at hP
          exact hP
theorem late_if {M : mM} {z : aZ} (hR : RpC M z) (hI : zInv z) : True := trivial
theorem run_X7_refusalOf : mRunOf 3 t_X7_refusalOf f_X7_refusalOf := fun g as M P hT => by
  obtain ⟨⟨z, w, n⟩, ⟨rfl, hw, hR, hI⟩, hP⟩ := hT
  refine ⟨Nat.le_of_ble_eq_true rfl, ?_⟩
  dsimp only at hw hR hI
  have hQ : ∀ v, v = rRef (zT z.2.1) z.2.1.length w n → P (some (.inl v)) M := fun v e => hP v M ⟨e, rfl⟩
  have hlen := hI.2.1.1
  have hT := hI.T
  obtain ⟨e3, -⟩ := RpC_play hR
  obtain ⟨-, ⟨b1, b5, b6, b2, b3, b4, -⟩, -⟩ := hR.2.2.2.1
  have eL : M 3 4 = nI z.2.1.length := hR.2.1.1
  have e2 : M 14 2 = oI ((zT z.2.1).2.1.2.1.map fun q => q.1) := b2
  have e4 : M 14 4 = oI ((zT z.2.1).2.1.2.1.map fun q => q.2.2 % 2) := b4
  have e5 : M 14 5 = nI (zT z.2.1).2.1.1.2.1 := b5
  have e1 : M 14 1 = nI (zT z.2.1).2.1.1.1 := b1
  have hb := hT.2.1
  refine v_rf_0 g M P (nI w) n ?_
  rw [eL]
  refine ⟨fun h => ?_, fun h => ?_⟩
  · have h' := (nI_ltI (by omega) (by decide)).mp h
    have K : ∀ b, b = mb (dTime (zT z.2.1) w = true) → mRun (mSx g) (f_X7_refusalOf g) P (23, [some (.inr (some 0)), some (.inl (nI w)), some (.inl n)], [.inl b], M) := fun b hb => rf_23 g M P w hw n b _ hb (hQ _ (if_neg (by omega)).symm)
    have p1 : nI (zT z.2.1).1.1 = nI 1 ↔ (zT z.2.1).1.1 = 1 := nI_at2 hT.1.1 (by decide)
    have p2 : nI (zT z.2.1).1.1 = nI 2 ↔ (zT z.2.1).1.1 = 2 := nI_at2 hT.1.1 (by decide)
    have p0 : nI (zT z.2.1).1.1 = 0 ↔ (zT z.2.1).1.1 = 0 := nI_at2 hT.1.1 (show 0 ≤ 2 by decide)
    have q2 : M 14 2 = -1 ↔ ¬ (zT z.2.1).2.1.2.1.isSome = true := by
      rw [e2]
      cases ho : (zT z.2.1).2.1.2.1 with
      | none => exact ⟨fun _ => by decide, fun _ => rfl⟩
      | some q =>
        obtain ⟨a, b, c⟩ := q
        have := (hb.2.2.2.1 a b c ho).2.1
        exact ⟨fun y => absurd y (ne_m1 (show a < 2 ^ 31 by omega)), fun y => absurd rfl y⟩
    have q4 : M 14 4 = M 14 1 &&& nI 1 ↔ dSame (zT z.2.1) = true := by
      have ht := hb.1
      rw [e4, e1, nI_and1 _ (by omega)]
      unfold dSame
      rw [decide_eq_true_eq]
      cases ho : (zT z.2.1).2.1.2.1 with
      | none => exact ⟨fun y => absurd (show nI _ = -1 from y.symm) (ne_m1 (by omega)), fun y => by cases y⟩
      | some q =>
        show nI (q.2.2 % 2) = _ ↔ some (q.2.2 % 2) = _
        rw [nI_eq (by omega) (by omega), Option.some_inj]
    have d2 := hb.2.1
    have q50 : M 14 5 = 0 ↔ (zT z.2.1).2.1.1.2.1 = 0 := by
      rw [e5]
      exact nI_eq (b := 0) (by omega) (by decide)
    have q51 : M 14 5 = nI 1 ↔ (zT z.2.1).2.1.1.2.1 = 1 := by
      rw [e5]
      exact nI_eq (by omega) (by decide)
    rw [e3, p1, p2, p0, q2, q4, q50, q51]
    rcases (by omega : w = 0 ∨ w = 1 ∨ w = 2 ∨ w = 3 ∨ w = 4 ∨ w = 5 ∨ w = 6 ∨ w = 7 ∨ w = 8) with rfl | rfl | rfl | rfl | rfl | rfl | rfl | rfl | rfl
    · refine ⟨fun h1 => absurd h1 (by decide), fun h1 => ?_⟩
      refine ⟨fun h3 => absurd h3 (by decide), fun h3 => ?_⟩
      refine ⟨fun h5 => absurd h5 (by decide), fun h5 => ?_⟩
      refine ⟨fun h14 => absurd h14 (by decide), fun h14 => ?_⟩
      refine ⟨fun h23 => absurd h23 (by decide), fun h23 => ?_⟩
      refine ⟨fun h25 => absurd h25 (by decide), fun h25 => ?_⟩
      refine ⟨fun h28 => ?_, fun h28 => ?_⟩
      · refine ⟨Or.inl rfl, ?_⟩
        try replace h28 := Classical.not_not.mp h28
        refine K _ (mb_f ?_).symm
        show ¬ (decide ((zT z.2.1).1.1 = 0)) = true
        simp [h28]
      · refine ⟨Or.inr rfl, ?_⟩
        try replace h28 := Classical.not_not.mp h28
        refine K _ (mb_t ?_).symm
        show (decide ((zT z.2.1).1.1 = 0)) = true
        simp [h28]
    · refine ⟨fun h1 => ?_, fun h1 => absurd (by decide) h1⟩
      refine ⟨fun h2 => ?_, fun h2 => ?_⟩
      · refine ⟨Or.inl rfl, ?_⟩
        try replace h2 := Classical.not_not.mp h2
        refine K _ (mb_f ?_).symm
        show ¬ (decide ((zT z.2.1).1.1 = 1)) = true
        simp [h2]
      · refine ⟨Or.inr rfl, ?_⟩
        try replace h2 := Classical.not_not.mp h2
        refine K _ (mb_t ?_).symm
        show (decide ((zT z.2.1).1.1 = 1)) = true
        simp [h2]
    · refine ⟨fun h1 => absurd h1 (by decide), fun h1 => ?_⟩
      refine ⟨fun h3 => ?_, fun h3 => absurd (by decide) h3⟩
      refine ⟨fun h4 => ?_, fun h4 => ?_⟩
      · refine ⟨Or.inl rfl, ?_⟩
        try replace h4 := Classical.not_not.mp h4
        refine K _ (mb_f ?_).symm
        show ¬ (decide ((zT z.2.1).1.1 = 1)) = true
        simp [h4]
      · refine ⟨Or.inr rfl, ?_⟩
        try replace h4 := Classical.not_not.mp h4
        refine K _ (mb_t ?_).symm
        show (decide ((zT z.2.1).1.1 = 1)) = true
        simp [h4]
    · refine ⟨fun h1 => absurd h1 (by decide), fun h1 => ?_⟩
      refine ⟨fun h3 => absurd h3 (by decide), fun h3 => ?_⟩
      refine ⟨fun h5 => ?_, fun h5 => absurd (by decide) h5⟩
      refine ⟨fun h6 => ?_, fun h6 => ?_⟩
      · refine ⟨Or.inl rfl, ?_⟩
        try replace h6 := Classical.not_not.mp h6
        refine K _ (mb_f ?_).symm
        show ¬ (decide ((zT z.2.1).1.1 = 1) && ((zT z.2.1).2.1.2.1.isSome && (!dSame (zT z.2.1) && decide ((zT z.2.1).2.1.1.2.1 = 0)))) = true
        simp [h6]
      · refine ⟨fun h7 => ?_, fun h7 => ?_⟩
        · refine ⟨Or.inl rfl, ?_⟩
          refine ⟨fun h8 => ?_, fun h8 => absurd (by decide) h8⟩
          refine ⟨Or.inl rfl, ?_⟩
          try replace h6 := Classical.not_not.mp h6
          try replace h7 := Classical.not_not.mp h7
          refine K _ (mb_f ?_).symm
          show ¬ (decide ((zT z.2.1).1.1 = 1) && ((zT z.2.1).2.1.2.1.isSome && (!dSame (zT z.2.1) && decide ((zT z.2.1).2.1.1.2.1 = 0)))) = true
          simp [h6, h7]
        · refine ⟨fun h9 => ?_, fun h9 => ?_⟩
          · refine ⟨Or.inl rfl, ?_⟩
            refine ⟨fun h10 => ?_, fun h10 => absurd (by decide) h10⟩
            refine ⟨Or.inl rfl, ?_⟩
            try replace h6 := Classical.not_not.mp h6
            try replace h7 := Classical.not_not.mp h7
            try replace h9 := Classical.not_not.mp h9
            refine K _ (mb_f ?_).symm
            show ¬ (decide ((zT z.2.1).1.1 = 1) && ((zT z.2.1).2.1.2.1.isSome && (!dSame (zT z.2.1) && decide ((zT z.2.1).2.1.1.2.1 = 0)))) = true
            simp [h6, h7, h9]
          · refine ⟨fun h11 => ?_, fun h11 => ?_⟩
            · refine ⟨Or.inl rfl, ?_⟩
              refine ⟨fun h12 => ?_, fun h12 => absurd (by decide) h12⟩
              refine ⟨Or.inl rfl, ?_⟩
              try replace h6 := Classical.not_not.mp h6
              try replace h7 := Classical.not_not.mp h7
              try replace h9 := Classical.not_not.mp h9
              try replace h11 := Classical.not_not.mp h11
              refine K _ (mb_f ?_).symm
              show ¬ (decide ((zT z.2.1).1.1 = 1) && ((zT z.2.1).2.1.2.1.isSome && (!dSame (zT z.2.1) && decide ((zT z.2.1).2.1.1.2.1 = 0)))) = true
              simp [h6, h7, h9, h11]
            · refine ⟨Or.inr rfl, ?_⟩
              refine ⟨fun h13 => absurd h13 (by decide), fun h13 => ?_⟩
              refine ⟨Or.inr rfl, ?_⟩
              try replace h6 := Classical.not_not.mp h6
              try replace h7 := Classical.not_not.mp h7
              try replace h9 := Classical.not_not.mp h9
              try replace h11 := Classical.not_not.mp h11
              refine K _ (mb_t ?_).symm
              show (decide ((zT z.2.1).1.1 = 1) && ((zT z.2.1).2.1.2.1.isSome && (!dSame (zT z.2.1) && decide ((zT z.2.1).2.1.1.2.1 = 0)))) = true
              simp [h6, h7, h9, h11]
    · refine ⟨fun h1 => absurd h1 (by decide), fun h1 => ?_⟩
      refine ⟨fun h3 => absurd h3 (by decide), fun h3 => ?_⟩
      refine ⟨fun h5 => absurd h5 (by decide), fun h5 => ?_⟩
      refine ⟨fun h14 => ?_, fun h14 => absurd (by decide) h14⟩
      refine ⟨fun h15 => ?_, fun h15 => ?_⟩
      · refine ⟨Or.inl rfl, ?_⟩
        try replace h15 := Classical.not_not.mp h15
        refine K _ (mb_f ?_).symm
        show ¬ (decide ((zT z.2.1).1.1 = 1) && ((zT z.2.1).2.1.2.1.isSome && (dSame (zT z.2.1) && decide ((zT z.2.1).2.1.1.2.1 = 1)))) = true
        simp [h15]
      · refine ⟨fun h16 => ?_, fun h16 => ?_⟩
        · refine ⟨Or.inl rfl, ?_⟩
          refine ⟨fun h17 => ?_, fun h17 => absurd (by decide) h17⟩
          refine ⟨Or.inl rfl, ?_⟩
          try replace h15 := Classical.not_not.mp h15
          try replace h16 := Classical.not_not.mp h16
          refine K _ (mb_f ?_).symm
          show ¬ (decide ((zT z.2.1).1.1 = 1) && ((zT z.2.1).2.1.2.1.isSome && (dSame (zT z.2.1) && decide ((zT z.2.1).2.1.1.2.1 = 1)))) = true
          simp [h15, h16]
        · refine ⟨fun h18 => ?_, fun h18 => ?_⟩
          · refine ⟨Or.inl rfl, ?_⟩
            refine ⟨fun h19 => ?_, fun h19 => absurd (by decide) h19⟩
            refine ⟨Or.inl rfl, ?_⟩
            try replace h15 := Classical.not_not.mp h15
            try replace h16 := Classical.not_not.mp h16
            try replace h18 := Classical.not_not.mp h18
            refine K _ (mb_f ?_).symm
            show ¬ (decide ((zT z.2.1).1.1 = 1) && ((zT z.2.1).2.1.2.1.isSome && (dSame (zT z.2.1) && decide ((zT z.2.1).2.1.1.2.1 = 1)))) = true
            simp [h15, h16, h18]
          · refine ⟨fun h20 => ?_, fun h20 => ?_⟩
            · refine ⟨Or.inl rfl, ?_⟩
              refine ⟨fun h21 => ?_, fun h21 => absurd (by decide) h21⟩
              refine ⟨Or.inl rfl, ?_⟩
              try replace h15 := Classical.not_not.mp h15
              try replace h16 := Classical.not_not.mp h16
              try replace h18 := Classical.not_not.mp h18
              try replace h20 := Classical.not_not.mp h20
              refine K _ (mb_f ?_).symm
              show ¬ (decide ((zT z.2.1).1.1 = 1) && ((zT z.2.1).2.1.2.1.isSome && (dSame (zT z.2.1) && decide ((zT z.2.1).2.1.1.2.1 = 1)))) = true
              simp [h15, h16, h18, h20]
            · refine ⟨Or.inr rfl, ?_⟩
              refine ⟨fun h22 => absurd h22 (by decide), fun h22 => ?_⟩
              refine ⟨Or.inr rfl, ?_⟩
              try replace h15 := Classical.not_not.mp h15
              try replace h16 := Classical.not_not.mp h16
              try replace h18 := Classical.not_not.mp h18
              try replace h20 := Classical.not_not.mp h20
              refine K _ (mb_t ?_).symm
              show (decide ((zT z.2.1).1.1 = 1) && ((zT z.2.1).2.1.2.1.isSome && (dSame (zT z.2.1) && decide ((zT z.2.1).2.1.1.2.1 = 1)))) = true
              simp [h15, h16, h18, h20]
    · refine ⟨fun h1 => absurd h1 (by decide), fun h1 => ?_⟩
      refine ⟨fun h3 => absurd h3 (by decide), fun h3 => ?_⟩
      refine ⟨fun h5 => absurd h5 (by decide), fun h5 => ?_⟩
      refine ⟨fun h14 => absurd h14 (by decide), fun h14 => ?_⟩
      refine ⟨fun h23 => ?_, fun h23 => absurd (by decide) h23⟩
      refine ⟨fun h24 => ?_, fun h24 => ?_⟩
      · refine ⟨Or.inl rfl, ?_⟩
        try replace h24 := Classical.not_not.mp h24
        refine K _ (mb_f ?_).symm
        show ¬ (decide ((zT z.2.1).1.1 = 2)) = true
        simp [h24]
      · refine ⟨Or.inr rfl, ?_⟩
        try replace h24 := Classical.not_not.mp h24
        refine K _ (mb_t ?_).symm
        show (decide ((zT z.2.1).1.1 = 2)) = true
        simp [h24]
    · have := near_cs hR hI (X := fun b => mRun (mSx g) (f_X7_refusalOf g) P (23, [some (.inr (some 0)), some (.inl (nI 6)), some (.inl n)], [.inl b], M)) (fun b hb => K b (by rw [hb]; simp [dTime]))
      rw [e3, p2] at this
      refine ⟨fun z => absurd z (by decide), fun _ => ⟨fun z => absurd z (by decide), fun _ => ⟨fun z => absurd z (by decide), fun _ => ⟨fun z => absurd z (by decide), fun _ => ⟨fun z => absurd z (by decide), fun _ => ⟨fun _ => ?_, fun z => absurd rfl z⟩⟩⟩⟩⟩⟩
      refine ⟨fun y => ⟨Or.inl rfl, Or.inl rfl, (this.1 y).2⟩, fun y => ⟨n4, fun y2 => ⟨Or.inl rfl, Or.inl rfl, ((this.2 y).2.1 y2).2⟩, fun y2 => ⟨Or.inr rfl, Or.inr rfl, ((this.2 y).2.2 y2).2⟩⟩⟩
    · refine ⟨fun h1 => absurd h1 (by decide), fun h1 => ?_⟩
      refine ⟨fun h3 => absurd h3 (by decide), fun h3 => ?_⟩
      refine ⟨fun h5 => absurd h5 (by decide), fun h5 => ?_⟩
      refine ⟨fun h14 => absurd h14 (by decide), fun h14 => ?_⟩
      refine ⟨fun h23 => absurd h23 (by decide), fun h23 => ?_⟩
      refine ⟨fun h25 => absurd h25 (by decide), fun h25 => ?_⟩
      refine ⟨fun h28 => ?_, fun h28 => ?_⟩
      · refine ⟨Or.inl rfl, ?_⟩
        try replace h28 := Classical.not_not.mp h28
        refine K _ (mb_f ?_).symm
        show ¬ (decide ((zT z.2.1).1.1 = 0)) = true
        simp [h28]
      · refine ⟨Or.inr rfl, ?_⟩
        try replace h28 := Classical.not_not.mp h28
        refine K _ (mb_t ?_).symm
        show (decide ((zT z.2.1).1.1 = 0)) = true
        simp [h28]
    · refine ⟨fun h1 => absurd h1 (by decide), fun h1 => ?_⟩
      refine ⟨fun h3 => absurd h3 (by decide), fun h3 => ?_⟩
      refine ⟨fun h5 => absurd h5 (by decide), fun h5 => ?_⟩
      refine ⟨fun h14 => absurd h14 (by decide), fun h14 => ?_⟩
      refine ⟨fun h23 => absurd h23 (by decide), fun h23 => ?_⟩
      refine ⟨fun h25 => absurd h25 (by decide), fun h25 => ?_⟩
      refine ⟨fun h28 => ?_, fun h28 => ?_⟩
      · refine ⟨Or.inl rfl, ?_⟩
        try replace h28 := Classical.not_not.mp h28
        refine K _ (mb_f ?_).symm
        show ¬ (decide ((zT z.2.1).1.1 = 0)) = true
        simp [h28]
      · refine ⟨Or.inr rfl, ?_⟩
        try replace h28 := Classical.not_not.mp h28
        refine K _ (mb_t ?_).symm
        show (decide ((zT z.2.1).1.1 = 0)) = true
        simp [h28]
  · refine hQ _ ?_
    unfold rRef
    rw [if_pos (Nat.le_of_not_lt (fun y => h (nI_lt y (by decide))))]
theorem ok_X7_refusalOf : mOK yX7_refusalOf cX7_refusalOf 3 (some .int) 5 t_X7_refusalOf := mOK.of f_X7_refusalOf (by decide) (fun _ => rfl) (fun g => mCodeOK kk_X7_refusalOf) (fun g => mFldL fk_RX7 rfl) (fun g idx v h => by cases h) (fun g idx v h => by cases h) (mCalL (l := l_X7_refusalOf) (List.forall_mem_cons.mpr ⟨mSite.V (idx := 294) ok_X5_isTimeFor (by decide) (by decide) rv_X5_isTimeFor wc_X5_isTimeFor wk_RX7_294 wi_X5_isTimeFor wl_X5_isTimeFor wn_RX5 wd_X5_isTimeFor, List.forall_mem_cons.mpr ⟨mSite.S (idx := 297) ok_X7_fitsWord (by decide) (by decide) wc_X7_fitsWord wk_RX7_297 wt_X7_fitsWord wn_RX7 wd_X7_fitsWord, fun _ h => absurd h List.not_mem_nil⟩⟩) (fun _ => rfl)) run_X7_refusalOf

def dFair (T : aT) (w : Nat) (n s : Int32) : Bool :=
  if w = 1 then decide (oI (T.2.1.2.1.map fun q => q.1) < n) || (decide (n = oI (T.2.1.2.1.map fun q => q.1)) && decide (trumpI T < s))
  else if w = 5 then bt (aAl T.2.2.1.1 T.2.2.1.2.1 T.2.2.1.2.2.2.2) (8 * ub s + ub n)
  else if w = 6 then decide (n ≤ nI (tO T)) else true
def pre_X7_isFair (q : aZ × Nat × Int32 × Int32) (as : List mV) (M : mM) : Prop := as = [.inr (some 0), .inl (nI q.2.1), .inl q.2.2.1, .inl q.2.2.2] ∧ q.2.1 < 9 ∧ RpC M q.1 ∧ zInv q.1 ∧ dTime (zT q.1.2.1) q.2.1 = true ∧ (q.2.1 = 5 → ub q.2.2.1 < 8 ∧ ub q.2.2.2 < 4)
def post_X7_isFair (q : aZ × Nat × Int32 × Int32) (_ : List mV) (M : mM) (v : Int32) (M' : mM) : Prop := v = mb (dFair (zT q.1.2.1) q.2.1 q.2.2.1 q.2.2.2 = true) ∧ FrP 29 M M'
abbrev t_X7_isFair : mG → mT := mRi pre_X7_isFair post_X7_isFair
theorem mo_X7_isFair : mMn t_X7_isFair := mRi_mono
theorem rv_X7_isFair : mHasR yX7_isFair 3 t_X7_isFair := by
  intro g as M P hT hl
  obtain ⟨q, ⟨h2, -⟩, -⟩ := hT
  exact ⟨_, _, h2, is_X7 g _ rfl⟩
def k_X7_isFair : List (Nat × mI) := [(0, .iload_n 1, 1, 1, 0, []),
  (1, .lookupswitch 91 #[(1, 35), (5, 48), (6, 77)], 35, 92, 0, [(nI 1, 36), (nI 5, 49), (nI 6, 78)]),
  (36, .aload_n 0, 1, 0, 0, []),
  (37, .getfield 29, 3, 0, 0, []),
  (40, .getfield 181, 3, 0, 0, []),
  (43, .iload_n 2, 1, 2, 0, []),
  (44, .iload_n 3, 1, 3, 0, []),
  (45, .invokevirtual 300, 3, 0, 0, []),
  (48, .ireturn, 1, 0, 0, []),
  (49, .aload_n 0, 1, 0, 0, []),
  (50, .getfield 29, 3, 0, 0, []),
  (53, .getfield 134, 3, 0, 0, []),
  (56, .invokevirtual 152, 3, 0, 0, []),
  (59, .iload_n 3, 1, 3, 0, []),
  (60, .bipush 8, 2, 0, nI 8, []),
  (62, .imul, 1, 0, 0, []),
  (63, .iload_n 2, 1, 2, 0, []),
  (64, .iadd, 1, 0, 0, []),
  (65, .invokestatic 225, 3, 0, 0, []),
  (68, .iand, 1, 0, 0, []),
  (69, .ifCond .eq 7, 3, 76, 0, []),
  (72, .iconst 1, 1, 0, nI 1, []),
  (73, .goto 4, 3, 77, 0, []),
  (76, .iconst 0, 1, 0, nI 0, []),
  (77, .ireturn, 1, 0, 0, []),
  (78, .iload_n 2, 1, 2, 0, []),
  (79, .aload_n 0, 1, 0, 0, []),
  (80, .invokevirtual 222, 3, 0, 0, []),
  (83, .if_icmp .gt 7, 3, 90, 0, []),
  (86, .iconst 1, 1, 0, nI 1, []),
  (87, .goto 4, 3, 91, 0, []),
  (90, .iconst 0, 1, 0, nI 0, []),
  (91, .ireturn, 1, 0, 0, []),
  (92, .iconst 1, 1, 0, nI 1, []),
  (93, .ireturn, 1, 0, 0, [])]
theorem kk_X7_isFair : (k_X7_isFair.all fun e => mChk cX7_isFair e.1 e.2) = true := by decide +kernel
def l_X7_isFair : List (Nat × Nat × (mG → mT)) := [(3 * 300, 2 + 1, t_X1_isAbove), (3 * 152, 0 + 1, t_X2_allowed), (3 * 225 + 1, 1, t_X7_bitOf), (3 * 222, 0 + 1, t_X7_openNow)]
def f_X7_isFair (g : mG) : mF := (mLk k_X7_isFair, mLk fl_RX7, mLk (l_X7_isFair.map fun e => (e.1, e.2.1, e.2.2 g)), mLk ([] : List (Nat × mV)), mLk ([] : List (Nat × mV)), some .boolean)
theorem m_X7_isFair (g : mG) : mMono (f_X7_isFair g) := mMonoL (g := g) (l := l_X7_isFair) (List.forall_mem_cons.mpr ⟨mo_X1_isAbove, List.forall_mem_cons.mpr ⟨mo_X2_allowed, List.forall_mem_cons.mpr ⟨mo_X7_bitOf, List.forall_mem_cons.mpr ⟨mo_X7_openNow, fun _ h => absurd h List.not_mem_nil⟩⟩⟩⟩) rfl

theorem v_if (g : mG) (M : mM) (P : mP) (w n s : Int32)
    (h : (w = (nI 1) → ((M 14 2) < n → ((nI 1) = 0 ∨ (nI 1) = 1) ∧ (((nI 1) = 0 ∨ (nI 1) = 1) ∧ P (some (.inl (nI 1))) M)) ∧ (¬ ((M 14 2) < n) → (¬ n = (M 14 2) → ((nI 0) = 0 ∨ (nI 0) = 1) ∧ (((nI 0) = 0 ∨ (nI 0) = 1) ∧ P (some (.inl (nI 0))) M)) ∧ (¬ (¬ n = (M 14 2)) → (s ≤ (M 14 3) → ((nI 0) = 0 ∨ (nI 0) = 1) ∧ (((nI 0) = 0 ∨ (nI 0) = 1) ∧ P (some (.inl (nI 0))) M)) ∧ (¬ (s ≤ (M 14 3)) → ((nI 1) = 0 ∨ (nI 1) = 1) ∧ (((nI 1) = 0 ∨ (nI 1) = 1) ∧ P (some (.inl (nI 1))) M))))) ∧ (¬ w = (nI 1) → (w = (nI 5) → ∃ x6 : Nat × aP, pre_X2_allowed x6 [.inr (some 16)] M ∧ ∀ (r8 : Int32) (M7 : mM), post_X2_allowed x6 [.inr (some 16)] M r8 M7 → (((r8 &&& (fBit ((s * (nI 8)) + n))) = 0 → ((nI 0) = 0 ∨ (nI 0) = 1) ∧ P (some (.inl (nI 0))) M7) ∧ (¬ ((r8 &&& (fBit ((s * (nI 8)) + n))) = 0) → ((nI 1) = 0 ∨ (nI 1) = 1) ∧ P (some (.inl (nI 1))) M7))) ∧ (¬ w = (nI 5) → (w = (nI 6) → ∃ x11 : aX × (Nat → Int32) × List Nat, pre_X7_openNow x11 [.inr (some 0)] M ∧ ∀ (r13 : Int32) (M12 : mM), post_X7_openNow x11 [.inr (some 0)] M r13 M12 → ((r13 < n → ((nI 0) = 0 ∨ (nI 0) = 1) ∧ P (some (.inl (nI 0))) M12) ∧ (¬ (r13 < n) → ((nI 1) = 0 ∨ (nI 1) = 1) ∧ P (some (.inl (nI 1))) M12))) ∧ (¬ w = (nI 6) → ((nI 1) = 0 ∨ (nI 1) = 1) ∧ P (some (.inl (nI 1))) M)))) :
    mRun (mSx g) (f_X7_isFair g) P (0, [some (.inr (some 0)), some (.inl w), some (.inl n), some (.inl s)], [], M) := mRun.vc (m_X7_isFair g) [] 17 h

theorem run_X7_isFair : mRunOf 4 t_X7_isFair f_X7_isFair := fun g as M P hT => by
  obtain ⟨⟨z, w, n, s⟩, ⟨rfl, hw, hR, hI, hd, h5⟩, hP⟩ := hT
  refine ⟨Nat.le_of_ble_eq_true rfl, ?_⟩
  dsimp only at hw hR hI hd h5
  have hT := hI.T
  have hQ : ∀ v M', v = mb (dFair (zT z.2.1) w n s = true) → FrP 29 M M' → P (some (.inl v)) M' := fun v M' e k => hP v M' ⟨e, k⟩
  obtain ⟨-, ⟨-, -, -, b2, b3, -, -⟩, -⟩ := hR.2.2.2.1
  have e2 : M 14 2 = oI ((zT z.2.1).2.1.2.1.map fun q => q.1) := b2
  have e3 : M 14 3 = trumpI (zT z.2.1) := b3
  refine v_if g M P (nI w) n s ?_
  rw [e2, e3]
  refine ⟨fun h => ?_, fun h1 => ⟨fun h => ?_, fun h5' => ⟨fun h => ?_, fun h6 => ?_⟩⟩⟩
  · obtain rfl := (nI_eq (by omega) (by decide)).mp h
    have no : ¬ oI ((zT z.2.1).2.1.2.1.map fun q => q.1) < n → ¬ (n = oI ((zT z.2.1).2.1.2.1.map fun q => q.1) ∧ trumpI (zT z.2.1) < s) → P (some (.inl (nI 0))) M := fun a b => hQ _ M (mb_f (by unfold dFair; simp [a]; exact fun c => Int32.not_lt.mp (fun d => b ⟨c, d⟩))).symm FrP.refl
    refine ⟨fun a => ⟨Or.inr rfl, Or.inr rfl, hQ _ M (mb_t (by unfold dFair; simp [a])).symm FrP.refl⟩, fun a => ⟨fun b => ⟨Or.inl rfl, Or.inl rfl, no a (fun c => b c.1)⟩, fun b => ⟨fun c => ⟨Or.inl rfl, Or.inl rfl, no a (fun d => absurd c (Int32.not_le.mpr d.2))⟩, fun c => ⟨Or.inr rfl, Or.inr rfl, hQ _ M (mb_t ?_).symm FrP.refl⟩⟩⟩⟩
    unfold dFair
    rw [if_pos rfl, Bool.or_eq_true, Bool.and_eq_true]
    exact Or.inr ⟨decide_eq_true (Classical.not_not.mp b), decide_eq_true (Int32.not_le.mp c)⟩
  · obtain rfl := (nI_eq (by omega) (by decide)).mp h
    have hph : (zT z.2.1).1.1 = 2 := by
      unfold dTime at hd
      simpa using hd
    obtain ⟨u1, u2⟩ := h5 rfl
    refine ⟨(16, (zT z.2.1).2.2.1), ⟨rfl, rfl, hR.2.2.2.1.2.2.1, (hT.play hph).1⟩, fun r M2 hr => ?_⟩
    obtain ⟨rfl, rfl⟩ := hr
    have e : s * nI 8 + n = nI (8 * ub s + ub n) := by
      rw [← nI_ub s, ← nI_ub n, pk_mul, nI_add, ub_nI (ub_lt s), ub_nI (ub_lt n), Nat.mul_comm]
    rw [e, and_bit (by omega)]
    refine ⟨fun a => ⟨Or.inl rfl, hQ _ _ (mb_f (by unfold dFair; exact a)).symm FrP.refl⟩, fun a => ⟨Or.inr rfl, hQ _ _ (mb_t (by unfold dFair; exact Classical.not_not.mp a)).symm FrP.refl⟩⟩
  · obtain rfl := (nI_eq (by omega) (by decide)).mp h
    have hl : dLate (zT z.2.1) = true := by
      unfold dTime at hd
      simpa using hd
    obtain ⟨l1, l2⟩ := dLate_t.mp hl
    refine ⟨((zT z.2.1).2.2.1.1, (zT z.2.1).2.2.1.2.1, (zT z.2.1).2.2.1.2.2.2.2), ⟨rfl, play00 hR.2.2.2.1 hT l1, (hT.play l1).1, l2⟩, fun r M2 hr => ?_⟩
    have hr1 : r = nI (tO (zT z.2.1)) := hr.1
    rw [hr1]
    refine ⟨fun a => ⟨Or.inl rfl, hQ _ _ (mb_f ?_).symm hr.2⟩, fun a => ⟨Or.inr rfl, hQ _ _ (mb_t ?_).symm hr.2⟩⟩
    · unfold dFair
      rw [if_neg (by decide), if_neg (by decide), if_pos rfl, decide_eq_true_eq]
      exact Int32.not_le.mpr a
    · unfold dFair
      rw [if_neg (by decide), if_neg (by decide), if_pos rfl, decide_eq_true_eq]
      exact Int32.not_lt.mp a
  · refine ⟨Or.inr rfl, hQ _ M (mb_t ?_).symm FrP.refl⟩
    unfold dFair
    rw [if_neg (fun y => h1 (by rw [y])), if_neg (fun y => h5' (by rw [y])), if_neg (fun y => h6 (by rw [y]))]
theorem ok_X7_isFair : mOK yX7_isFair cX7_isFair 4 (some .boolean) 19 t_X7_isFair := mOK.of f_X7_isFair (by decide) (fun _ => rfl) (fun g => mCodeOK kk_X7_isFair) (fun g => mFldL fk_RX7 rfl) (fun g idx v h => by cases h) (fun g idx v h => by cases h) (mCalL (l := l_X7_isFair) (List.forall_mem_cons.mpr ⟨mSite.V (idx := 300) ok_X1_isAbove (by decide) (by decide) rv_X1_isAbove wc_X1_isAbove wk_RX7_300 wi_X1_isAbove wl_X1_isAbove wn_RX1 wd_X1_isAbove, List.forall_mem_cons.mpr ⟨mSite.V (idx := 152) ok_X2_allowed (by decide) (by decide) rv_X2_allowed wc_X2_allowed wk_RX7_152 wi_X2_allowed wl_X2_allowed wn_RX2 wd_X2_allowed, List.forall_mem_cons.mpr ⟨mSite.S (idx := 225) ok_X7_bitOf (by decide) (by decide) wc_X7_bitOf wk_RX7_225 wt_X7_bitOf wn_RX7 wd_X7_bitOf, List.forall_mem_cons.mpr ⟨mSite.V (idx := 222) ok_X7_openNow (by decide) (by decide) rv_X7_openNow wc_X7_openNow wk_RX7_222 wi_X7_openNow wl_X7_openNow wn_RX7 wd_X7_openNow, fun _ h => absurd h List.not_mem_nil⟩⟩⟩⟩) (fun _ => rfl)) run_X7_isFair

