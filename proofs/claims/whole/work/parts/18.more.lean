/-! ===== SCORES, LOWEST TERMS, WORDS ===== -/
abbrev t_X7_scoreBy : mG → mT := mP5 fScore
theorem mo_X7_scoreBy : mMn t_X7_scoreBy := mP5_mono
def k_X7_scoreBy : List (Nat × mI) := [(0, .iload_n 1, 1, 1, 0, []),
  (1, .iload_n 2, 1, 2, 0, []),
  (2, .if_icmp .lt 16, 3, 18, 0, []),
  (5, .bipush 10, 2, 0, nI 10, []),
  (7, .iload_n 2, 1, 2, 0, []),
  (8, .imul, 1, 0, 0, []),
  (9, .iconst 2, 1, 0, nI 2, []),
  (10, .iload_n 1, 1, 1, 0, []),
  (11, .iload_n 2, 1, 2, 0, []),
  (12, .isub, 1, 0, 0, []),
  (13, .imul, 1, 0, 0, []),
  (14, .iadd, 1, 0, 0, []),
  (15, .goto 9, 3, 24, 0, []),
  (18, .bipush 10, 2, 0, nI 10, []),
  (20, .iload_n 1, 1, 1, 0, []),
  (21, .iload_n 2, 1, 2, 0, []),
  (22, .isub, 1, 0, 0, []),
  (23, .imul, 1, 0, 0, []),
  (24, .istore 5, 2, 5, 0, []),
  (26, .iload 5, 2, 5, 0, []),
  (28, .iload_n 2, 1, 2, 0, []),
  (29, .bipush 7, 2, 0, nI 7, []),
  (31, .if_icmp .lt 13, 3, 44, 0, []),
  (34, .iload_n 1, 1, 1, 0, []),
  (35, .iload_n 2, 1, 2, 0, []),
  (36, .if_icmp .lt 8, 3, 44, 0, []),
  (39, .bipush 20, 2, 0, nI 20, []),
  (41, .goto 4, 3, 45, 0, []),
  (44, .iconst 0, 1, 0, nI 0, []),
  (45, .iadd, 1, 0, 0, []),
  (46, .istore 6, 2, 6, 0, []),
  (48, .iload 5, 2, 5, 0, []),
  (50, .ifCond .ge 10, 3, 60, 0, []),
  (53, .iconst 2, 1, 0, nI 2, []),
  (54, .iload 5, 2, 5, 0, []),
  (56, .imul, 1, 0, 0, []),
  (57, .goto 5, 3, 62, 0, []),
  (60, .iload 5, 2, 5, 0, []),
  (62, .istore 7, 2, 7, 0, []),
  (64, .iload 4, 2, 4, 0, []),
  (66, .iconst 2, 1, 0, nI 2, []),
  (67, .if_icmp .ne 7, 3, 74, 0, []),
  (70, .iconst 4, 1, 0, nI 4, []),
  (71, .goto 14, 3, 85, 0, []),
  (74, .iload 4, 2, 4, 0, []),
  (76, .iconst 1, 1, 0, nI 1, []),
  (77, .if_icmp .ne 7, 3, 84, 0, []),
  (80, .iconst 2, 1, 0, nI 2, []),
  (81, .goto 4, 3, 85, 0, []),
  (84, .iconst 1, 1, 0, nI 1, []),
  (85, .istore 8, 2, 8, 0, []),
  (87, .iload_n 0, 1, 0, 0, []),
  (88, .tableswitch 94 0 4 #[36, 42, 48, 54, 73], 36, 182, 0, [(nI 0, 124), (nI 1, 130), (nI 2, 136), (nI 3, 142), (nI 4, 161)]),
  (124, .iload 8, 2, 8, 0, []),
  (126, .iload 5, 2, 5, 0, []),
  (128, .imul, 1, 0, 0, []),
  (129, .ireturn, 1, 0, 0, []),
  (130, .iload 8, 2, 8, 0, []),
  (132, .iload 6, 2, 6, 0, []),
  (134, .imul, 1, 0, 0, []),
  (135, .ireturn, 1, 0, 0, []),
  (136, .iload 8, 2, 8, 0, []),
  (138, .iload 7, 2, 7, 0, []),
  (140, .imul, 1, 0, 0, []),
  (141, .ireturn, 1, 0, 0, []),
  (142, .iload 8, 2, 8, 0, []),
  (144, .iload 6, 2, 6, 0, []),
  (146, .iload_n 1, 1, 1, 0, []),
  (147, .bipush 8, 2, 0, nI 8, []),
  (149, .if_icmp .ne 8, 3, 157, 0, []),
  (152, .bipush 50, 2, 0, nI 50, []),
  (154, .goto 4, 3, 158, 0, []),
  (157, .iconst 0, 1, 0, nI 0, []),
  (158, .iadd, 1, 0, 0, []),
  (159, .imul, 1, 0, 0, []),
  (160, .ireturn, 1, 0, 0, []),
  (161, .iload 8, 2, 8, 0, []),
  (163, .iload 7, 2, 7, 0, []),
  (165, .iload_n 1, 1, 1, 0, []),
  (166, .iload_n 2, 1, 2, 0, []),
  (167, .if_icmp .le 11, 3, 178, 0, []),
  (170, .iconst 2, 1, 0, nI 2, []),
  (171, .iload_n 1, 1, 1, 0, []),
  (172, .iload_n 2, 1, 2, 0, []),
  (173, .isub, 1, 0, 0, []),
  (174, .imul, 1, 0, 0, []),
  (175, .goto 4, 3, 179, 0, []),
  (178, .iconst 0, 1, 0, nI 0, []),
  (179, .isub, 1, 0, 0, []),
  (180, .imul, 1, 0, 0, []),
  (181, .ireturn, 1, 0, 0, []),
  (182, .iload 8, 2, 8, 0, []),
  (184, .iload 5, 2, 5, 0, []),
  (186, .iload_n 3, 1, 3, 0, []),
  (187, .iconst 4, 1, 0, nI 4, []),
  (188, .if_icmp .ne 7, 3, 195, 0, []),
  (191, .iconst 5, 1, 0, nI 5, []),
  (192, .goto 4, 3, 196, 0, []),
  (195, .iconst 0, 1, 0, nI 0, []),
  (196, .iadd, 1, 0, 0, []),
  (197, .imul, 1, 0, 0, []),
  (198, .ireturn, 1, 0, 0, [])]
theorem kk_X7_scoreBy : (k_X7_scoreBy.all fun e => mChk cX7_scoreBy e.1 e.2) = true := by decide +kernel
def l_X7_scoreBy : List (Nat × Nat × (mG → mT)) := []
def f_X7_scoreBy (g : mG) : mF := (mLk k_X7_scoreBy, mLk fl_RX7, mLk (l_X7_scoreBy.map fun e => (e.1, e.2.1, e.2.2 g)), mLk ([] : List (Nat × mV)), mLk ([] : List (Nat × mV)), some .int)
theorem m_X7_scoreBy (g : mG) : mMono (f_X7_scoreBy g) := mMonoL (g := g) (l := l_X7_scoreBy) (fun _ h => absurd h List.not_mem_nil) rfl

theorem v_scoreBy_0 (g : mG) (M : mM) (P : mP) (x y z u w : Int32)
    (h : (y < z → mRun (mSx g) (f_X7_scoreBy g) P (24, [some (.inl x), some (.inl y), some (.inl z), some (.inl u), some (.inl w), none, none, none, none], [.inl ((nI 10) * (y - z))], M)) ∧ (¬ y < z → mRun (mSx g) (f_X7_scoreBy g) P (24, [some (.inl x), some (.inl y), some (.inl z), some (.inl u), some (.inl w), none, none, none, none], [.inl (((nI 10) * z) + ((nI 2) * (y - z)))], M))) :
    mRun (mSx g) (f_X7_scoreBy g) P (0, [some (.inl x), some (.inl y), some (.inl z), some (.inl u), some (.inl w), none, none, none, none], [], M) := mRun.vc (m_X7_scoreBy g) [24] 14 h

theorem v_scoreBy_24 (g : mG) (M : mM) (P : mP) (x y z u w q : Int32)
    (h : (z < (nI 7) → mRun (mSx g) (f_X7_scoreBy g) P (46, [some (.inl x), some (.inl y), some (.inl z), some (.inl u), some (.inl w), some (.inl q), none, none, none], [.inl (q + (nI 0))], M)) ∧ (¬ z < (nI 7) → (y < z → mRun (mSx g) (f_X7_scoreBy g) P (46, [some (.inl x), some (.inl y), some (.inl z), some (.inl u), some (.inl w), some (.inl q), none, none, none], [.inl (q + (nI 0))], M)) ∧ (¬ y < z → mRun (mSx g) (f_X7_scoreBy g) P (46, [some (.inl x), some (.inl y), some (.inl z), some (.inl u), some (.inl w), some (.inl q), none, none, none], [.inl (q + (nI 20))], M)))) :
    mRun (mSx g) (f_X7_scoreBy g) P (24, [some (.inl x), some (.inl y), some (.inl z), some (.inl u), some (.inl w), none, none, none, none], [.inl q], M) := mRun.vc (m_X7_scoreBy g) [46] 12 h

theorem v_scoreBy_46 (g : mG) (M : mM) (P : mP) (x y z u w q q2 : Int32)
    (h : (0 ≤ q → mRun (mSx g) (f_X7_scoreBy g) P (62, [some (.inl x), some (.inl y), some (.inl z), some (.inl u), some (.inl w), some (.inl q), some (.inl q2), none, none], [.inl q], M)) ∧ (¬ 0 ≤ q → mRun (mSx g) (f_X7_scoreBy g) P (62, [some (.inl x), some (.inl y), some (.inl z), some (.inl u), some (.inl w), some (.inl q), some (.inl q2), none, none], [.inl ((nI 2) * q)], M))) :
    mRun (mSx g) (f_X7_scoreBy g) P (46, [some (.inl x), some (.inl y), some (.inl z), some (.inl u), some (.inl w), some (.inl q), none, none, none], [.inl q2], M) := mRun.vc (m_X7_scoreBy g) [62] 8 h

theorem v_scoreBy_62 (g : mG) (M : mM) (P : mP) (x y z u w q q2 q3 : Int32)
    (h : (¬ w = (nI 2) → (¬ w = (nI 1) → mRun (mSx g) (f_X7_scoreBy g) P (85, [some (.inl x), some (.inl y), some (.inl z), some (.inl u), some (.inl w), some (.inl q), some (.inl q2), some (.inl q3), none], [.inl (nI 1)], M)) ∧ (¬ (¬ w = (nI 1)) → mRun (mSx g) (f_X7_scoreBy g) P (85, [some (.inl x), some (.inl y), some (.inl z), some (.inl u), some (.inl w), some (.inl q), some (.inl q2), some (.inl q3), none], [.inl (nI 2)], M))) ∧ (¬ (¬ w = (nI 2)) → mRun (mSx g) (f_X7_scoreBy g) P (85, [some (.inl x), some (.inl y), some (.inl z), some (.inl u), some (.inl w), some (.inl q), some (.inl q2), some (.inl q3), none], [.inl (nI 4)], M))) :
    mRun (mSx g) (f_X7_scoreBy g) P (62, [some (.inl x), some (.inl y), some (.inl z), some (.inl u), some (.inl w), some (.inl q), some (.inl q2), none, none], [.inl q3], M) := mRun.vc (m_X7_scoreBy g) [85] 10 h

theorem v_scoreBy_85 (g : mG) (M : mM) (P : mP) (x y z u w q q2 q3 q4 : Int32)
    (h : (x = (nI 0) → P (some (.inl (q4 * q))) M) ∧ (¬ x = (nI 0) → (x = (nI 1) → P (some (.inl (q4 * q2))) M) ∧ (¬ x = (nI 1) → (x = (nI 2) → P (some (.inl (q4 * q3))) M) ∧ (¬ x = (nI 2) → (x = (nI 3) → (¬ y = (nI 8) → P (some (.inl (q4 * (q2 + (nI 0))))) M) ∧ (¬ (¬ y = (nI 8)) → P (some (.inl (q4 * (q2 + (nI 50))))) M)) ∧ (¬ x = (nI 3) → (x = (nI 4) → (y ≤ z → P (some (.inl (q4 * (q3 - (nI 0))))) M) ∧ (¬ y ≤ z → P (some (.inl (q4 * (q3 - ((nI 2) * (y - z)))))) M)) ∧ (¬ x = (nI 4) → (¬ u = (nI 4) → P (some (.inl (q4 * (q + (nI 0))))) M) ∧ (¬ (¬ u = (nI 4)) → P (some (.inl (q4 * (q + (nI 5))))) M))))))) :
    mRun (mSx g) (f_X7_scoreBy g) P (85, [some (.inl x), some (.inl y), some (.inl z), some (.inl u), some (.inl w), some (.inl q), some (.inl q2), some (.inl q3), none], [.inl q4], M) := mRun.vc (m_X7_scoreBy g) [] 17 h

set_option maxHeartbeats 4000000 in
theorem run_X7_scoreBy : mRunOf 9 t_X7_scoreBy f_X7_scoreBy := runP5 (by decide) (fun g M P x y z u w h => by
  have h85 : ∀ q4, q4 = fTimes w → mRun (mSx g) (f_X7_scoreBy g) P (85, [some (.inl x), some (.inl y), some (.inl z), some (.inl u), some (.inl w), some (.inl (fPlain y z)), some (.inl (fBold y z)), some (.inl (fSharp y z)), none], [.inl q4], M) := fun q4 e => by
    refine v_scoreBy_85 g M P x y z u w _ _ _ q4 ?_
    subst e
    unfold fScore fBase at h
    (repeat' (first | (refine ⟨?_, ?_⟩) | (intro _)))
    all_goals first | (refine mP_eq h ?_; simp_all; done) | (refine mP_eq h ?_; (repeat' split) <;> first | rfl | (simp_all; done) | (exfalso; simp (disch := decide) only [fa_lt, fa_le, fa_eq, nI_toInt, Int32.toInt_zero] at * <;> omega))
  have h62 : ∀ q3, q3 = fSharp y z → mRun (mSx g) (f_X7_scoreBy g) P (62, [some (.inl x), some (.inl y), some (.inl z), some (.inl u), some (.inl w), some (.inl (fPlain y z)), some (.inl (fBold y z)), none, none], [.inl q3], M) := fun q3 e => by
    refine v_scoreBy_62 g M P x y z u w _ _ q3 ?_
    subst e
    refine ⟨fun h1 => ⟨fun h2 => h85 _ ?_, fun h2 => h85 _ ?_⟩, fun h1 => h85 _ ?_⟩
    · unfold fTimes
      rw [if_neg h1, if_neg h2]
    · unfold fTimes
      rw [if_neg h1, if_pos (Classical.not_not.mp h2)]
    · unfold fTimes
      rw [if_pos (Classical.not_not.mp h1)]
  have h46 : ∀ q2, q2 = fBold y z → mRun (mSx g) (f_X7_scoreBy g) P (46, [some (.inl x), some (.inl y), some (.inl z), some (.inl u), some (.inl w), some (.inl (fPlain y z)), none, none, none], [.inl q2], M) := fun q2 e => by
    refine v_scoreBy_46 g M P x y z u w _ q2 ?_
    subst e
    refine ⟨fun h1 => h62 _ ?_, fun h1 => h62 _ ?_⟩
    · unfold fSharp
      rw [if_pos h1]
    · unfold fSharp
      rw [if_neg h1]
  have h24 : ∀ q, q = fPlain y z → mRun (mSx g) (f_X7_scoreBy g) P (24, [some (.inl x), some (.inl y), some (.inl z), some (.inl u), some (.inl w), none, none, none, none], [.inl q], M) := fun q e => by
    refine v_scoreBy_24 g M P x y z u w q ?_
    subst e
    refine ⟨fun h1 => h46 _ ?_, fun h1 => ⟨fun h2 => h46 _ ?_, fun h2 => h46 _ ?_⟩⟩
    · unfold fBold
      rw [if_pos h1]
    · unfold fBold
      rw [if_neg h1, if_pos h2]
    · unfold fBold
      rw [if_neg h1, if_neg h2]
  refine v_scoreBy_0 g M P x y z u w ⟨fun h1 => h24 _ ?_, fun h1 => h24 _ ?_⟩
  · unfold fPlain
    rw [if_pos h1]
  · unfold fPlain
    rw [if_neg h1])
theorem ok_X7_scoreBy : mOK yX7_scoreBy cX7_scoreBy 9 (some .int) 1 t_X7_scoreBy := mOK.of f_X7_scoreBy (by decide) (fun _ => rfl) (fun g => mCodeOK kk_X7_scoreBy) (fun g => mFldL fk_RX7 rfl) (fun g idx v h => by cases h) (fun g idx v h => by cases h) (mCalL (l := l_X7_scoreBy) (fun _ h => absurd h List.not_mem_nil) (fun _ => rfl)) run_X7_scoreBy

abbrev t_X8_plain : mG → mT := mP4 fBase
theorem mo_X8_plain : mMn t_X8_plain := mP4_mono
def k_X8_plain : List (Nat × mI) := [(0, .iload_n 1, 1, 1, 0, []),
  (1, .iload_n 2, 1, 2, 0, []),
  (2, .if_icmp .lt 16, 3, 18, 0, []),
  (5, .bipush 10, 2, 0, nI 10, []),
  (7, .iload_n 2, 1, 2, 0, []),
  (8, .imul, 1, 0, 0, []),
  (9, .iconst 2, 1, 0, nI 2, []),
  (10, .iload_n 1, 1, 1, 0, []),
  (11, .iload_n 2, 1, 2, 0, []),
  (12, .isub, 1, 0, 0, []),
  (13, .imul, 1, 0, 0, []),
  (14, .iadd, 1, 0, 0, []),
  (15, .goto 9, 3, 24, 0, []),
  (18, .bipush 10, 2, 0, nI 10, []),
  (20, .iload_n 1, 1, 1, 0, []),
  (21, .iload_n 2, 1, 2, 0, []),
  (22, .isub, 1, 0, 0, []),
  (23, .imul, 1, 0, 0, []),
  (24, .istore 4, 2, 4, 0, []),
  (26, .iload 4, 2, 4, 0, []),
  (28, .iload_n 2, 1, 2, 0, []),
  (29, .bipush 7, 2, 0, nI 7, []),
  (31, .if_icmp .lt 13, 3, 44, 0, []),
  (34, .iload_n 1, 1, 1, 0, []),
  (35, .iload_n 2, 1, 2, 0, []),
  (36, .if_icmp .lt 8, 3, 44, 0, []),
  (39, .bipush 20, 2, 0, nI 20, []),
  (41, .goto 4, 3, 45, 0, []),
  (44, .iconst 0, 1, 0, nI 0, []),
  (45, .iadd, 1, 0, 0, []),
  (46, .istore 5, 2, 5, 0, []),
  (48, .iload 4, 2, 4, 0, []),
  (50, .ifCond .ge 10, 3, 60, 0, []),
  (53, .iconst 2, 1, 0, nI 2, []),
  (54, .iload 4, 2, 4, 0, []),
  (56, .imul, 1, 0, 0, []),
  (57, .goto 5, 3, 62, 0, []),
  (60, .iload 4, 2, 4, 0, []),
  (62, .istore 6, 2, 6, 0, []),
  (64, .iload_n 0, 1, 0, 0, []),
  (65, .ifCond .ne 6, 3, 71, 0, []),
  (68, .iload 4, 2, 4, 0, []),
  (70, .ireturn, 1, 0, 0, []),
  (71, .iload_n 0, 1, 0, 0, []),
  (72, .iconst 1, 1, 0, nI 1, []),
  (73, .if_icmp .ne 6, 3, 79, 0, []),
  (76, .iload 5, 2, 5, 0, []),
  (78, .ireturn, 1, 0, 0, []),
  (79, .iload_n 0, 1, 0, 0, []),
  (80, .iconst 2, 1, 0, nI 2, []),
  (81, .if_icmp .ne 6, 3, 87, 0, []),
  (84, .iload 6, 2, 6, 0, []),
  (86, .ireturn, 1, 0, 0, []),
  (87, .iload_n 0, 1, 0, 0, []),
  (88, .iconst 3, 1, 0, nI 3, []),
  (89, .if_icmp .ne 19, 3, 108, 0, []),
  (92, .iload 5, 2, 5, 0, []),
  (94, .iload_n 1, 1, 1, 0, []),
  (95, .bipush 8, 2, 0, nI 8, []),
  (97, .if_icmp .ne 8, 3, 105, 0, []),
  (100, .bipush 50, 2, 0, nI 50, []),
  (102, .goto 4, 3, 106, 0, []),
  (105, .iconst 0, 1, 0, nI 0, []),
  (106, .iadd, 1, 0, 0, []),
  (107, .ireturn, 1, 0, 0, []),
  (108, .iload_n 0, 1, 0, 0, []),
  (109, .iconst 4, 1, 0, nI 4, []),
  (110, .if_icmp .ne 21, 3, 131, 0, []),
  (113, .iload 6, 2, 6, 0, []),
  (115, .iload_n 1, 1, 1, 0, []),
  (116, .iload_n 2, 1, 2, 0, []),
  (117, .if_icmp .le 11, 3, 128, 0, []),
  (120, .iconst 2, 1, 0, nI 2, []),
  (121, .iload_n 1, 1, 1, 0, []),
  (122, .iload_n 2, 1, 2, 0, []),
  (123, .isub, 1, 0, 0, []),
  (124, .imul, 1, 0, 0, []),
  (125, .goto 4, 3, 129, 0, []),
  (128, .iconst 0, 1, 0, nI 0, []),
  (129, .isub, 1, 0, 0, []),
  (130, .ireturn, 1, 0, 0, []),
  (131, .iload 4, 2, 4, 0, []),
  (133, .iload_n 3, 1, 3, 0, []),
  (134, .iconst 4, 1, 0, nI 4, []),
  (135, .if_icmp .ne 7, 3, 142, 0, []),
  (138, .iconst 5, 1, 0, nI 5, []),
  (139, .goto 4, 3, 143, 0, []),
  (142, .iconst 0, 1, 0, nI 0, []),
  (143, .iadd, 1, 0, 0, []),
  (144, .ireturn, 1, 0, 0, [])]
theorem kk_X8_plain : (k_X8_plain.all fun e => mChk cX8_plain e.1 e.2) = true := by decide +kernel
def l_X8_plain : List (Nat × Nat × (mG → mT)) := []
def f_X8_plain (g : mG) : mF := (mLk k_X8_plain, mLk fl_RX8, mLk (l_X8_plain.map fun e => (e.1, e.2.1, e.2.2 g)), mLk ([] : List (Nat × mV)), mLk ([] : List (Nat × mV)), some .int)
theorem m_X8_plain (g : mG) : mMono (f_X8_plain g) := mMonoL (g := g) (l := l_X8_plain) (fun _ h => absurd h List.not_mem_nil) rfl

theorem v_plain_0 (g : mG) (M : mM) (P : mP) (x y z u : Int32)
    (h : (y < z → mRun (mSx g) (f_X8_plain g) P (24, [some (.inl x), some (.inl y), some (.inl z), some (.inl u), none, none, none], [.inl ((nI 10) * (y - z))], M)) ∧ (¬ y < z → mRun (mSx g) (f_X8_plain g) P (24, [some (.inl x), some (.inl y), some (.inl z), some (.inl u), none, none, none], [.inl (((nI 10) * z) + ((nI 2) * (y - z)))], M))) :
    mRun (mSx g) (f_X8_plain g) P (0, [some (.inl x), some (.inl y), some (.inl z), some (.inl u), none, none, none], [], M) := mRun.vc (m_X8_plain g) [24] 14 h

theorem v_plain_24 (g : mG) (M : mM) (P : mP) (x y z u q : Int32)
    (h : (z < (nI 7) → mRun (mSx g) (f_X8_plain g) P (46, [some (.inl x), some (.inl y), some (.inl z), some (.inl u), some (.inl q), none, none], [.inl (q + (nI 0))], M)) ∧ (¬ z < (nI 7) → (y < z → mRun (mSx g) (f_X8_plain g) P (46, [some (.inl x), some (.inl y), some (.inl z), some (.inl u), some (.inl q), none, none], [.inl (q + (nI 0))], M)) ∧ (¬ y < z → mRun (mSx g) (f_X8_plain g) P (46, [some (.inl x), some (.inl y), some (.inl z), some (.inl u), some (.inl q), none, none], [.inl (q + (nI 20))], M)))) :
    mRun (mSx g) (f_X8_plain g) P (24, [some (.inl x), some (.inl y), some (.inl z), some (.inl u), none, none, none], [.inl q], M) := mRun.vc (m_X8_plain g) [46] 12 h

theorem v_plain_46 (g : mG) (M : mM) (P : mP) (x y z u q q2 : Int32)
    (h : (0 ≤ q → mRun (mSx g) (f_X8_plain g) P (62, [some (.inl x), some (.inl y), some (.inl z), some (.inl u), some (.inl q), some (.inl q2), none], [.inl q], M)) ∧ (¬ 0 ≤ q → mRun (mSx g) (f_X8_plain g) P (62, [some (.inl x), some (.inl y), some (.inl z), some (.inl u), some (.inl q), some (.inl q2), none], [.inl ((nI 2) * q)], M))) :
    mRun (mSx g) (f_X8_plain g) P (46, [some (.inl x), some (.inl y), some (.inl z), some (.inl u), some (.inl q), none, none], [.inl q2], M) := mRun.vc (m_X8_plain g) [62] 8 h

theorem v_plain_62 (g : mG) (M : mM) (P : mP) (x y z u q q2 q3 : Int32)
    (h : (¬ x = 0 → (¬ x = (nI 1) → (¬ x = (nI 2) → (¬ x = (nI 3) → (¬ x = (nI 4) → (¬ u = (nI 4) → P (some (.inl (q + (nI 0)))) M) ∧ (¬ (¬ u = (nI 4)) → P (some (.inl (q + (nI 5)))) M)) ∧ (¬ (¬ x = (nI 4)) → (y ≤ z → P (some (.inl (q3 - (nI 0)))) M) ∧ (¬ y ≤ z → P (some (.inl (q3 - ((nI 2) * (y - z))))) M))) ∧ (¬ (¬ x = (nI 3)) → (¬ y = (nI 8) → P (some (.inl (q2 + (nI 0)))) M) ∧ (¬ (¬ y = (nI 8)) → P (some (.inl (q2 + (nI 50)))) M))) ∧ (¬ (¬ x = (nI 2)) → P (some (.inl q3)) M)) ∧ (¬ (¬ x = (nI 1)) → P (some (.inl q2)) M)) ∧ (¬ (¬ x = 0) → P (some (.inl q)) M)) :
    mRun (mSx g) (f_X8_plain g) P (62, [some (.inl x), some (.inl y), some (.inl z), some (.inl u), some (.inl q), some (.inl q2), none], [.inl q3], M) := mRun.vc (m_X8_plain g) [] 27 h

set_option maxHeartbeats 4000000 in
theorem run_X8_plain : mRunOf 7 t_X8_plain f_X8_plain := runP4 (by decide) (fun g M P x y z u h => by
  have h62 : ∀ q3, q3 = fSharp y z → mRun (mSx g) (f_X8_plain g) P (62, [some (.inl x), some (.inl y), some (.inl z), some (.inl u), some (.inl (fPlain y z)), some (.inl (fBold y z)), none], [.inl q3], M) := fun q3 e => by
    refine v_plain_62 g M P x y z u _ _ q3 ?_
    subst e
    unfold fBase at h
    (repeat' (first | (refine ⟨?_, ?_⟩) | (intro _)))
    all_goals first | (refine mP_eq h ?_; simp_all; done) | (refine mP_eq h ?_; (repeat' split) <;> first | rfl | (simp_all; done) | (exfalso; simp (disch := decide) only [fa_lt, fa_le, fa_eq, nI_toInt, Int32.toInt_zero] at * <;> omega))
  have h46 : ∀ q2, q2 = fBold y z → mRun (mSx g) (f_X8_plain g) P (46, [some (.inl x), some (.inl y), some (.inl z), some (.inl u), some (.inl (fPlain y z)), none, none], [.inl q2], M) := fun q2 e => by
    refine v_plain_46 g M P x y z u _ q2 ?_
    subst e
    refine ⟨fun h1 => h62 _ ?_, fun h1 => h62 _ ?_⟩
    · unfold fSharp
      rw [if_pos h1]
    · unfold fSharp
      rw [if_neg h1]
  have h24 : ∀ q, q = fPlain y z → mRun (mSx g) (f_X8_plain g) P (24, [some (.inl x), some (.inl y), some (.inl z), some (.inl u), none, none, none], [.inl q], M) := fun q e => by
    refine v_plain_24 g M P x y z u q ?_
    subst e
    refine ⟨fun h1 => h46 _ ?_, fun h1 => ⟨fun h2 => h46 _ ?_, fun h2 => h46 _ ?_⟩⟩
    · unfold fBold
      rw [if_pos h1]
    · unfold fBold
      rw [if_neg h1, if_pos h2]
    · unfold fBold
      rw [if_neg h1, if_neg h2]
  refine v_plain_0 g M P x y z u ⟨fun h1 => h24 _ ?_, fun h1 => h24 _ ?_⟩
  · unfold fPlain
    rw [if_pos h1]
  · unfold fPlain
    rw [if_neg h1])
theorem ok_X8_plain : mOK yX8_plain cX8_plain 7 (some .int) 1 t_X8_plain := mOK.of f_X8_plain (by decide) (fun _ => rfl) (fun g => mCodeOK kk_X8_plain) (fun g => mFldL fk_RX8 rfl) (fun g idx v h => by cases h) (fun g idx v h => by cases h) (mCalL (l := l_X8_plain) (fun _ h => absurd h List.not_mem_nil) (fun _ => rfl)) run_X8_plain

abbrev t_X8_scored : mG → mT := mP5 fScoreB
theorem mo_X8_scored : mMn t_X8_scored := mP5_mono
def k_X8_scored : List (Nat × mI) := [(0, .iload_n 0, 1, 0, 0, []),
  (1, .iload_n 1, 1, 1, 0, []),
  (2, .iload_n 2, 1, 2, 0, []),
  (3, .iload_n 3, 1, 3, 0, []),
  (4, .invokestatic 147, 3, 0, 0, []),
  (7, .iload 4, 2, 4, 0, []),
  (9, .ifCond .ne 7, 3, 16, 0, []),
  (12, .iconst 1, 1, 0, nI 1, []),
  (13, .goto 7, 3, 20, 0, []),
  (16, .iconst 2, 1, 0, nI 2, []),
  (17, .iload 4, 2, 4, 0, []),
  (19, .imul, 1, 0, 0, []),
  (20, .imul, 1, 0, 0, []),
  (21, .ireturn, 1, 0, 0, [])]
theorem kk_X8_scored : (k_X8_scored.all fun e => mChk cX8_scored e.1 e.2) = true := by decide +kernel
def l_X8_scored : List (Nat × Nat × (mG → mT)) := [(3 * 147 + 1, 4, t_X8_plain)]
def f_X8_scored (g : mG) : mF := (mLk k_X8_scored, mLk fl_RX8, mLk (l_X8_scored.map fun e => (e.1, e.2.1, e.2.2 g)), mLk ([] : List (Nat × mV)), mLk ([] : List (Nat × mV)), some .int)
theorem m_X8_scored (g : mG) : mMono (f_X8_scored g) := mMonoL (g := g) (l := l_X8_scored) (List.forall_mem_cons.mpr ⟨mo_X8_plain, fun _ h => absurd h List.not_mem_nil⟩) rfl

theorem v_X8_scored (g : mG) (M : mM) (P : mP) (x y z u w : Int32)
    (h : (¬ w = 0 → P (some (.inl ((fBase x y z u) * ((nI 2) * w)))) M) ∧ (¬ (¬ w = 0) → P (some (.inl ((fBase x y z u) * (nI 1)))) M)) :
    mRun (mSx g) (f_X8_scored g) P (0, [some (.inl x), some (.inl y), some (.inl z), some (.inl u), some (.inl w)], [], M) := mRun.vc (m_X8_scored g) [] 12 h

set_option maxHeartbeats 4000000 in
theorem run_X8_scored : mRunOf 5 t_X8_scored f_X8_scored := runP5 (by decide) (fun g M P x y z u w h => v_X8_scored g M P x y z u w (by
    (repeat' (first | (refine ⟨?_, ?_⟩) | (intro _)))
    all_goals first | decide | (refine mP_eq h ?_; unfold fScoreB; (try unfold mb); (repeat' split) <;> first | rfl | (simp_all; done) | (exfalso; simp (disch := decide) only [fa_lt, fa_le, fa_eq, nI_toInt, Int32.toInt_zero] at * <;> omega)) | (exfalso; simp (disch := decide) only [fa_lt, fa_le, fa_eq, nI_toInt, Int32.toInt_zero] at * <;> omega) | skip))
theorem ok_X8_scored : mOK yX8_scored cX8_scored 5 (some .int) 2 t_X8_scored := mOK.of f_X8_scored (by decide) (fun _ => rfl) (fun g => mCodeOK kk_X8_scored) (fun g => mFldL fk_RX8 rfl) (fun g idx v h => by cases h) (fun g idx v h => by cases h) (mCalL (l := l_X8_scored) (List.forall_mem_cons.mpr ⟨mSite.S (idx := 147) ok_X8_plain (by decide) (by decide) wc_X8_plain wk_RX8_147 wt_X8_plain wn_RX8 wd_X8_plain, fun _ h => absurd h List.not_mem_nil⟩) (fun _ => rfl)) run_X8_scored

def k_X7_wordText : List (Nat × mI) := [(0, .iload_n 0, 1, 0, 0, []),
  (1, .tableswitch 87 0 8 #[51, 55, 59, 63, 67, 71, 75, 79, 83], 51, 88, 0, [(nI 0, 52), (nI 1, 56), (nI 2, 60), (nI 3, 64), (nI 4, 68), (nI 5, 72), (nI 6, 76), (nI 7, 80), (nI 8, 84)]),
  (52, .ldc_w 326, 3, 0, 0, []),
  (55, .areturn, 1, 0, 0, []),
  (56, .ldc_w 328, 3, 0, 0, []),
  (59, .areturn, 1, 0, 0, []),
  (60, .ldc_w 330, 3, 0, 0, []),
  (63, .areturn, 1, 0, 0, []),
  (64, .ldc_w 332, 3, 0, 0, []),
  (67, .areturn, 1, 0, 0, []),
  (68, .ldc_w 334, 3, 0, 0, []),
  (71, .areturn, 1, 0, 0, []),
  (72, .ldc_w 336, 3, 0, 0, []),
  (75, .areturn, 1, 0, 0, []),
  (76, .ldc_w 337, 3, 0, 0, []),
  (79, .areturn, 1, 0, 0, []),
  (80, .ldc_w 339, 3, 0, 0, []),
  (83, .areturn, 1, 0, 0, []),
  (84, .ldc_w 341, 3, 0, 0, []),
  (87, .areturn, 1, 0, 0, []),
  (88, .ldc_w 343, 3, 0, 0, []),
  (91, .areturn, 1, 0, 0, [])]
theorem kk_X7_wordText : (k_X7_wordText.all fun e => mChk cX7_wordText e.1 e.2) = true := by decide +kernel
def l_X7_wordText : List (Nat × Nat × (mG → mT)) := []
def f_X7_wordText (g : mG) : mF := (mLk k_X7_wordText, mLk fl_RX7, mLk (l_X7_wordText.map fun e => (e.1, e.2.1, e.2.2 g)), mLk cs_RX7, mLk ([] : List (Nat × mV)), some (.object "java/lang/String"))
theorem m_X7_wordText (g : mG) : mMono (f_X7_wordText g) := mMonoL (g := g) (l := l_X7_wordText) (fun _ h => absurd h List.not_mem_nil) rfl
def t_X7_wordText : mG → mT := mSV f_X7_wordText 1 23
theorem mo_X7_wordText : mMn t_X7_wordText := mSV_mono m_X7_wordText
theorem ok_X7_wordText : mOK yX7_wordText cX7_wordText 1 (some (.object "java/lang/String")) 1 t_X7_wordText := mOK.of f_X7_wordText (by decide) (fun _ => rfl) (fun g => mCodeOK kk_X7_wordText) (fun g => mFldL fk_RX7 rfl) (mCstL ck_RX7 (fun _ => rfl)) (fun g idx v h => by cases h) (mCalL (l := l_X7_wordText) (fun _ h => absurd h List.not_mem_nil) (fun _ => rfl)) (mSV_run m_X7_wordText)

def k_X8_wordOf : List (Nat × mI) := [(0, .iload_n 0, 1, 0, 0, []),
  (1, .tableswitch 72 0 7 #[47, 50, 53, 56, 59, 62, 65, 68], 47, 73, 0, [(nI 0, 48), (nI 1, 51), (nI 2, 54), (nI 3, 57), (nI 4, 60), (nI 5, 63), (nI 6, 66), (nI 7, 69)]),
  (48, .ldc 243, 2, 0, 0, []),
  (50, .areturn, 1, 0, 0, []),
  (51, .ldc 245, 2, 0, 0, []),
  (53, .areturn, 1, 0, 0, []),
  (54, .ldc 246, 2, 0, 0, []),
  (56, .areturn, 1, 0, 0, []),
  (57, .ldc 248, 2, 0, 0, []),
  (59, .areturn, 1, 0, 0, []),
  (60, .ldc 250, 2, 0, 0, []),
  (62, .areturn, 1, 0, 0, []),
  (63, .ldc 252, 2, 0, 0, []),
  (65, .areturn, 1, 0, 0, []),
  (66, .ldc 254, 2, 0, 0, []),
  (68, .areturn, 1, 0, 0, []),
  (69, .ldc_w 256, 3, 0, 0, []),
  (72, .areturn, 1, 0, 0, []),
  (73, .ldc_w 258, 3, 0, 0, []),
  (76, .areturn, 1, 0, 0, [])]
theorem kk_X8_wordOf : (k_X8_wordOf.all fun e => mChk cX8_wordOf e.1 e.2) = true := by decide +kernel
def l_X8_wordOf : List (Nat × Nat × (mG → mT)) := []
def f_X8_wordOf (g : mG) : mF := (mLk k_X8_wordOf, mLk fl_RX8, mLk (l_X8_wordOf.map fun e => (e.1, e.2.1, e.2.2 g)), mLk cs_RX8, mLk ([] : List (Nat × mV)), some (.object "java/lang/String"))
theorem m_X8_wordOf (g : mG) : mMono (f_X8_wordOf g) := mMonoL (g := g) (l := l_X8_wordOf) (fun _ h => absurd h List.not_mem_nil) rfl
def t_X8_wordOf : mG → mT := mSV f_X8_wordOf 1 21
theorem mo_X8_wordOf : mMn t_X8_wordOf := mSV_mono m_X8_wordOf
theorem ok_X8_wordOf : mOK yX8_wordOf cX8_wordOf 1 (some (.object "java/lang/String")) 1 t_X8_wordOf := mOK.of f_X8_wordOf (by decide) (fun _ => rfl) (fun g => mCodeOK kk_X8_wordOf) (fun g => mFldL fk_RX8 rfl) (mCstL ck_RX8 (fun _ => rfl)) (fun g idx v h => by cases h) (mCalL (l := l_X8_wordOf) (fun _ h => absurd h List.not_mem_nil) (fun _ => rfl)) (mSV_run m_X8_wordOf)

def fLetter (s : Int32) : Int32 := if s = nI 0 then nI 99 else if s = nI 1 then nI 100 else if s = nI 2 then nI 104 else if s = nI 3 then nI 115 else nI 110
abbrev t_X7_suitLetter : mG → mT := mP1 fLetter
theorem mo_X7_suitLetter : mMn t_X7_suitLetter := mP1_mono
def k_X7_suitLetter : List (Nat × mI) := [(0, .iload_n 0, 1, 0, 0, []),
  (1, .tableswitch 43 0 3 #[31, 34, 37, 40], 31, 44, 0, [(nI 0, 32), (nI 1, 35), (nI 2, 38), (nI 3, 41)]),
  (32, .bipush 99, 2, 0, nI 99, []),
  (34, .ireturn, 1, 0, 0, []),
  (35, .bipush 100, 2, 0, nI 100, []),
  (37, .ireturn, 1, 0, 0, []),
  (38, .bipush 104, 2, 0, nI 104, []),
  (40, .ireturn, 1, 0, 0, []),
  (41, .bipush 115, 2, 0, nI 115, []),
  (43, .ireturn, 1, 0, 0, []),
  (44, .bipush 110, 2, 0, nI 110, []),
  (46, .ireturn, 1, 0, 0, [])]
theorem kk_X7_suitLetter : (k_X7_suitLetter.all fun e => mChk cX7_suitLetter e.1 e.2) = true := by decide +kernel
def l_X7_suitLetter : List (Nat × Nat × (mG → mT)) := []
def f_X7_suitLetter (g : mG) : mF := (mLk k_X7_suitLetter, mLk fl_RX7, mLk (l_X7_suitLetter.map fun e => (e.1, e.2.1, e.2.2 g)), mLk ([] : List (Nat × mV)), mLk ([] : List (Nat × mV)), some .char)
theorem m_X7_suitLetter (g : mG) : mMono (f_X7_suitLetter g) := mMonoL (g := g) (l := l_X7_suitLetter) (fun _ h => absurd h List.not_mem_nil) rfl

theorem v_X7_suitLetter (g : mG) (M : mM) (P : mP) (x : Int32)
    (h : (x = (nI 0) → ((nI 99).toUInt32 % 65536).toInt32 = (nI 99) ∧ P (some (.inl (nI 99))) M) ∧ (¬ x = (nI 0) → (x = (nI 1) → ((nI 100).toUInt32 % 65536).toInt32 = (nI 100) ∧ P (some (.inl (nI 100))) M) ∧ (¬ x = (nI 1) → (x = (nI 2) → ((nI 104).toUInt32 % 65536).toInt32 = (nI 104) ∧ P (some (.inl (nI 104))) M) ∧ (¬ x = (nI 2) → (x = (nI 3) → ((nI 115).toUInt32 % 65536).toInt32 = (nI 115) ∧ P (some (.inl (nI 115))) M) ∧ (¬ x = (nI 3) → ((nI 110).toUInt32 % 65536).toInt32 = (nI 110) ∧ P (some (.inl (nI 110))) M))))) :
    mRun (mSx g) (f_X7_suitLetter g) P (0, [some (.inl x)], [], M) := mRun.vc (m_X7_suitLetter g) [] 4 h

theorem run_X7_suitLetter : mRunOf 1 t_X7_suitLetter f_X7_suitLetter := runP1 (by decide) (fun g M P x h => v_X7_suitLetter g M P x (by
  unfold fLetter at h
  refine ⟨fun h1 => ⟨by decide, ?_⟩, fun h1 => ⟨fun h2 => ⟨by decide, ?_⟩, fun h2 => ⟨fun h3 => ⟨by decide, ?_⟩, fun h3 => ⟨fun h4 => ⟨by decide, ?_⟩, fun h4 => ⟨by decide, ?_⟩⟩⟩⟩⟩
  · rw [if_pos h1] at h
    exact h
  · rw [if_neg h1, if_pos h2] at h
    exact h
  · rw [if_neg h1, if_neg h2, if_pos h3] at h
    exact h
  · rw [if_neg h1, if_neg h2, if_neg h3, if_pos h4] at h
    exact h
  · rw [if_neg h1, if_neg h2, if_neg h3, if_neg h4] at h
    exact h))
theorem ok_X7_suitLetter : mOK yX7_suitLetter cX7_suitLetter 1 (some .char) 1 t_X7_suitLetter := mOK.of f_X7_suitLetter (by decide) (fun _ => rfl) (fun g => mCodeOK kk_X7_suitLetter) (fun g => mFldL fk_RX7 rfl) (fun g idx v h => by cases h) (fun g idx v h => by cases h) (mCalL (l := l_X7_suitLetter) (fun _ h => absurd h List.not_mem_nil) (fun _ => rfl)) run_X7_suitLetter

def k_X7_inLowestTerms : List (Nat × mI) := [(0, .iload_n 2, 1, 2, 0, []),
  (1, .istore_n 3, 1, 3, 0, []),
  (2, .iload_n 3, 1, 3, 0, []),
  (3, .iconst 1, 1, 0, nI 1, []),
  (4, .if_icmp .le 25, 3, 29, 0, []),
  (7, .iload_n 1, 1, 1, 0, []),
  (8, .iload_n 3, 1, 3, 0, []),
  (9, .irem, 1, 0, 0, []),
  (10, .ifCond .ne 13, 3, 23, 0, []),
  (13, .iload_n 2, 1, 2, 0, []),
  (14, .iload_n 3, 1, 3, 0, []),
  (15, .irem, 1, 0, 0, []),
  (16, .ifCond .ne 7, 3, 23, 0, []),
  (19, .iload_n 0, 1, 0, 0, []),
  (20, .iload_n 3, 1, 3, 0, []),
  (21, .idiv, 1, 0, 0, []),
  (22, .ireturn, 1, 0, 0, []),
  (23, .iinc 3 (-1), 3, 3, -1, []),
  (26, .goto (-24), 3, 2, 0, []),
  (29, .iload_n 0, 1, 0, 0, []),
  (30, .ireturn, 1, 0, 0, [])]
theorem kk_X7_inLowestTerms : (k_X7_inLowestTerms.all fun e => mChk cX7_inLowestTerms e.1 e.2) = true := by decide +kernel
def l_X7_inLowestTerms : List (Nat × Nat × (mG → mT)) := []
def f_X7_inLowestTerms (g : mG) : mF := (mLk k_X7_inLowestTerms, mLk fl_RX7, mLk (l_X7_inLowestTerms.map fun e => (e.1, e.2.1, e.2.2 g)), mLk ([] : List (Nat × mV)), mLk ([] : List (Nat × mV)), some .int)
theorem m_X7_inLowestTerms (g : mG) : mMono (f_X7_inLowestTerms g) := mMonoL (g := g) (l := l_X7_inLowestTerms) (fun _ h => absurd h List.not_mem_nil) rfl

