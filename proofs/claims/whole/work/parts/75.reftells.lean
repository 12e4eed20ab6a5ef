/-! ===== THE REFERENCE: what a sheet tells ===== -/
def pre_X8_isSo (q : aZ × Nat × Int32 × Nat) (as : List mV) (M : mM) : Prop := as = [.inr (some 50), .inl (nI q.2.1), .inl q.2.2.1, .inl (nI q.2.2.2)] ∧ RpM M q.1 ∧ zInv q.1 ∧ q.2.1 < 4 ∧ q.2.2.2 < 4
def post_X8_isSo (q : aZ × Nat × Int32 × Nat) (_ : List mV) (M : mM) (v : Int32) (M' : mM) : Prop := v = mb (dSo (zT q.1.2.1) (q.1.2.2.2 q.2.1) q.2.2.1 q.2.2.2 = true) ∧ M' = M
abbrev t_X8_isSo : mG → mT := mRi pre_X8_isSo post_X8_isSo
theorem mo_X8_isSo : mMn t_X8_isSo := mRi_mono
theorem rv_X8_isSo : mHasR yX8_isSo 3 t_X8_isSo := by
  intro g as M P hT hl
  obtain ⟨q, ⟨h2, -⟩, -⟩ := hT
  exact ⟨_, _, h2, is_X8 g _ rfl⟩
def k_X8_isSo : List (Nat × mI) := [(0, .aload_n 0, 1, 0, 0, []),
  (1, .getfield 67, 3, 0, 0, []),
  (4, .iload_n 1, 1, 1, 0, []),
  (5, .iaload, 1, 0, 0, []),
  (6, .aload_n 0, 1, 0, 0, []),
  (7, .getfield 97, 3, 0, 0, []),
  (10, .if_icmp .eq 5, 3, 15, 0, []),
  (13, .iconst 0, 1, 0, nI 0, []),
  (14, .ireturn, 1, 0, 0, []),
  (15, .iconst 0, 1, 0, nI 0, []),
  (16, .istore 4, 2, 4, 0, []),
  (18, .iload 4, 2, 4, 0, []),
  (20, .aload_n 0, 1, 0, 0, []),
  (21, .getfield 97, 3, 0, 0, []),
  (24, .if_icmp .ge 31, 3, 55, 0, []),
  (27, .aload_n 0, 1, 0, 0, []),
  (28, .iload 4, 2, 4, 0, []),
  (30, .iload_n 2, 1, 2, 0, []),
  (31, .iload_n 3, 1, 3, 0, []),
  (32, .invokevirtual 179, 3, 0, 0, []),
  (35, .aload_n 0, 1, 0, 0, []),
  (36, .getfield 70, 3, 0, 0, []),
  (39, .iload_n 1, 1, 1, 0, []),
  (40, .aaload, 1, 1, 0, []),
  (41, .iload 4, 2, 4, 0, []),
  (43, .iaload, 1, 1, 0, []),
  (44, .if_icmp .eq 5, 3, 49, 0, []),
  (47, .iconst 0, 1, 0, nI 0, []),
  (48, .ireturn, 1, 0, 0, []),
  (49, .iinc 4 1, 3, 4, nI 1, []),
  (52, .goto (-34), 3, 18, 0, []),
  (55, .iconst 1, 1, 0, nI 1, []),
  (56, .ireturn, 1, 0, 0, [])]
theorem kk_X8_isSo : (k_X8_isSo.all fun e => mChk cX8_isSo e.1 e.2) = true := by decide +kernel
def l_X8_isSo : List (Nat × Nat × (mG → mT)) := [(3 * 179, 3 + 1, t_X8_wonBy)]
def f_X8_isSo (g : mG) : mF := (mLk k_X8_isSo, mLk fl_RX8, mLk (l_X8_isSo.map fun e => (e.1, e.2.1, e.2.2 g)), mLk ([] : List (Nat × mV)), mLk ([] : List (Nat × mV)), some .boolean)
theorem m_X8_isSo (g : mG) : mMono (f_X8_isSo g) := mMonoL (g := g) (l := l_X8_isSo) (List.forall_mem_cons.mpr ⟨mo_X8_wonBy, fun _ h => absurd h List.not_mem_nil⟩) rfl

theorem w_is_0 (g : mG) (M : mM) (P : mP) (x t h : Int32)
    (hVC : vp_in x 4 ∧ (((M 84 x.toNatClampNeg) = (M 50 19) → mRun (mSx g) (f_X8_isSo g) P (18, [some (.inr (some 50)), some (.inl x), some (.inl t), some (.inl h), some (.inl (nI 0))], [], M)) ∧ (¬ ((M 84 x.toNatClampNeg) = (M 50 19)) → ((nI 0) = 0 ∨ (nI 0) = 1) ∧ P (some (.inl (nI 0))) M))) :
    mRun (mSx g) (f_X8_isSo g) P (0, [some (.inr (some 50)), some (.inl x), some (.inl t), some (.inl h), none], [], M) := mRun.vc (m_X8_isSo g) [18] 10 hVC

theorem w_is_18 (g : mG) (M : mM) (P : mP) (x t h i : Int32)
    (hVC : ((M 50 19) ≤ i → ((nI 1) = 0 ∨ (nI 1) = 1) ∧ P (some (.inl (nI 1))) M) ∧ (¬ ((M 50 19) ≤ i) → ∃ x2 : Nat × Int32 × Nat × List Nat × Nat, pre_X8_wonBy x2 [.inr (some 50), .inl i, .inl t, .inl h] M ∧ ∀ (r4 : Int32) (M3 : mM), post_X8_wonBy x2 [.inr (some 50), .inl i, .inl t, .inl h] M r4 M3 → (∃ (n5 k6 c7 : Nat) (rs8 : List (Option Nat)), (mSx g)[85]? = some (1, n5, rs8) ∧ x = nI k6 ∧ k6 < n5 ∧ n5 < 2 ^ 31 ∧ rs8[k6]? = some (some c7) ∧ (∃ (n9 : Nat) (rs10 : List (Option Nat)), (mSx g)[c7]? = some (0, n9, rs10) ∧ vp_in i n9 ∧ ((r4 = (M3 c7 i.toNatClampNeg) → mRun (mSx g) (f_X8_isSo g) P (18, [some (.inr (some 50)), some (.inl x), some (.inl t), some (.inl h), some (.inl (i + (nI 1)))], [], M3)) ∧ (¬ (r4 = (M3 c7 i.toNatClampNeg)) → ((nI 0) = 0 ∨ (nI 0) = 1) ∧ P (some (.inl (nI 0))) M3)))))) :
    mRun (mSx g) (f_X8_isSo g) P (18, [some (.inr (some 50)), some (.inl x), some (.inl t), some (.inl h), some (.inl i)], [], M) := mRun.vc (m_X8_isSo g) [18] 19 hVC

theorem isM_loop (g : mG) (P : mP) (M : mM) (z : aZ) (k : Nat) (t : Int32) (h : Nat) (hk : k < 4) (hh : h < 4) (hR : RpM M z) (hI : zInv z) (hs : (z.2.2.2 k).2.1 = tFull (zT z.2.1)) (hP : ∀ b : Bool, b = fA (fun i => decide ((z.2.2.2 k).2.2 i = nI (tWo (zT z.2.1) t h i))) (tFull (zT z.2.1)) 0 → P (some (.inl (mb (b = true)))) M) :
    ∀ (n i : Nat), i + n = tFull (zT z.2.1) → fA (fun i => decide ((z.2.2.2 k).2.2 i = nI (tWo (zT z.2.1) t h i))) (tFull (zT z.2.1)) 0 = fA (fun i => decide ((z.2.2.2 k).2.2 i = nI (tWo (zT z.2.1) t h i))) n i → mRun (mSx g) (f_X8_isSo g) P (18, [some (.inr (some 50)), some (.inl (nI k)), some (.inl t), some (.inl (nI h)), some (.inl (nI i))], [], M)
  | 0, i, hi, hf => by
    have hl := hI.T.len
    have h8 : tFull (zT z.2.1) ≤ 8 := by unfold tFull; omega
    have e19 : M 50 19 = nI (tFull (zT z.2.1)) := hR.T.2.2.1.1
    obtain rfl : i = tFull (zT z.2.1) := by omega
    refine w_is_18 g M P _ _ _ _ ?_
    rw [e19]
    exact ⟨fun _ => ⟨Or.inr rfl, hP true hf.symm⟩, fun w => absurd (nI_le (Nat.le_refl _) (by omega)) w⟩
  | n + 1, i, hi, hf => by
    have hl := hI.T.len
    have h8 : tFull (zT z.2.1) ≤ 8 := by unfold tFull; omega
    have e19 : M 50 19 = nI (tFull (zT z.2.1)) := hR.T.2.2.1.1
    have hi4 : 4 * i + 4 ≤ (zT z.2.1).2.2.1.2.2.2.2.length := by
      have : i < tFull (zT z.2.1) := by omega
      unfold tFull at this
      omega
    have hok : aOkS (zT z.2.1).2.2.1 := by
      rcases hI.T.2.2.2.2.1 with h | h
      · rw [h] at hi4
        exact absurd hi4 (by simp)
      · exact h
    refine w_is_18 g M P _ _ _ _ ?_
    rw [e19]
    refine ⟨fun w => absurd w (nI_ge (by omega) (by omega)), fun _ => ⟨(i, t, h, (zT z.2.1).2.2.1.2.2.2.2, aLd (zT z.2.1).2.2.1.1 (zT z.2.1).2.2.1.2.2.2.2 i), ⟨rfl, by show i < 8; omega, hh, aLd_lt hok.2.1 _, fun j hj => ⟨hR.T.2.2.1.2.2.2.2.1 i j hj (by omega), aOk.lt hok _ (aC_in (by show 4 * i + j < _; omega))⟩, hR.T.2.2.1.2.2.2.2.2.1 i (by omega)⟩, fun r M3 hr => ?_⟩⟩
    obtain ⟨hv, rfl⟩ := hr
    have hv' : r = nI (tWo (zT z.2.1) t h i) := hv
    obtain ⟨a1, a2, a3⟩ := hR.2.2.2.2 k hk
    refine rr_at (i := k) o_items (by decide) hk (ri_at o_items hk (show i < 40 by omega) (by decide) ?_)
    rw [nI_clamp (by omega), a3 i (by omega), hv', nI_add]
    rw [fA] at hf
    refine ⟨fun w => ?_, fun w => ⟨Or.inl rfl, ?_⟩⟩
    · refine isM_loop g P M3 z k t h hk hh hR hI hs hP n (i + 1) (by omega) ?_
      rw [hf, decide_eq_true w.symm, Bool.true_and]
    · refine hP false ?_
      rw [hf, decide_eq_false (fun y => w y.symm), Bool.false_and]
theorem run_X8_isSo : mRunOf 5 t_X8_isSo f_X8_isSo := fun g as M P hT => by
  obtain ⟨⟨z, k, t, h⟩, ⟨rfl, hR, hI, hk, hh⟩, hP⟩ := hT
  refine ⟨Nat.le_of_ble_eq_true rfl, ?_⟩
  dsimp only at hR hI hk hh hP
  have hl := hI.T.len
  have h8 : tFull (zT z.2.1) ≤ 8 := by unfold tFull; omega
  have e19 : M 50 19 = nI (tFull (zT z.2.1)) := hR.T.2.2.1.1
  obtain ⟨a1, a2, a3⟩ := hR.2.2.2.2 k hk
  have h40 := (hI.2.2.2 k hk).2.1
  have hQ : ∀ b : Bool, b = dSo (zT z.2.1) (z.2.2.2 k) t h → P (some (.inl (mb (b = true)))) M := fun b e => hP _ M ⟨by rw [e], rfl⟩
  refine w_is_0 g M P _ _ _ ⟨vp_in_nI hk (by decide), ?_⟩
  dsimp only
  rw [nI_clamp (by omega), a2, e19, nI_eq (by omega) (by omega)]
  refine ⟨fun hs => ?_, fun hs => ⟨Or.inl rfl, ?_⟩⟩
  · refine isM_loop g P M z k t h hk hh hR hI hs (fun b e => hQ b ?_) (tFull (zT z.2.1)) 0 (Nat.zero_add _) rfl
    unfold dSo
    rw [decide_eq_true hs, Bool.true_and]
    exact e
  · refine hQ false ?_
    unfold dSo
    rw [decide_eq_false hs, Bool.false_and]
theorem ok_X8_isSo : mOK yX8_isSo cX8_isSo 5 (some .boolean) 3 t_X8_isSo := mOK.of f_X8_isSo (by decide) (fun _ => rfl) (fun g => mCodeOK kk_X8_isSo) (fun g => mFldL fk_RX8 rfl) (fun g idx v h => by cases h) (fun g idx v h => by cases h) (mCalL (l := l_X8_isSo) (List.forall_mem_cons.mpr ⟨mSite.V (idx := 179) ok_X8_wonBy (by decide) (by decide) rv_X8_wonBy wc_X8_wonBy wk_RX8_179 wi_X8_wonBy wl_X8_wonBy wn_RX8 wd_X8_wonBy, fun _ h => absurd h List.not_mem_nil⟩) (fun _ => rfl)) run_X8_isSo

abbrev t_X8_tells : mG → mT := pubM 2 F_tells
theorem mo_X8_tells : mMn t_X8_tells := pubM_mono
theorem rv_X8_tells : mHasR yX8_tells 2 t_X8_tells := pubM_recv rfl
def k_X8_tells : List (Nat × mI) := [(0, .iload_n 1, 1, 1, 0, []),
  (1, .invokestatic 367, 3, 0, 0, []),
  (4, .ifCond .eq 12, 3, 16, 0, []),
  (7, .iload_n 2, 1, 2, 0, []),
  (8, .iconst 0, 1, 0, nI 0, []),
  (9, .iconst 2, 1, 0, nI 2, []),
  (10, .invokestatic 214, 3, 0, 0, []),
  (13, .ifCond .ne 6, 3, 19, 0, []),
  (16, .bipush (-2), 2, 0, -2, []),
  (18, .ireturn, 1, 0, 0, []),
  (19, .aload_n 0, 1, 0, 0, []),
  (20, .getfield 64, 3, 0, 0, []),
  (23, .iload_n 1, 1, 1, 0, []),
  (24, .iaload, 1, 0, 0, []),
  (25, .ifCond .ge 6, 3, 31, 0, []),
  (28, .bipush (-11), 2, 0, -11, []),
  (30, .ireturn, 1, 0, 0, []),
  (31, .aload_n 0, 1, 0, 0, []),
  (32, .getfield 67, 3, 0, 0, []),
  (35, .iload_n 1, 1, 1, 0, []),
  (36, .iaload, 1, 0, 0, []),
  (37, .bipush 8, 2, 0, nI 8, []),
  (39, .if_icmp .le 6, 3, 45, 0, []),
  (42, .bipush (-2), 2, 0, -2, []),
  (44, .ireturn, 1, 0, 0, []),
  (45, .iload_n 2, 1, 2, 0, []),
  (46, .ifCond .ne 72, 3, 118, 0, []),
  (49, .iconst 0, 1, 0, nI 0, []),
  (50, .istore_n 3, 1, 3, 0, []),
  (51, .iload_n 3, 1, 3, 0, []),
  (52, .aload_n 0, 1, 0, 0, []),
  (53, .getfield 67, 3, 0, 0, []),
  (56, .iload_n 1, 1, 1, 0, []),
  (57, .iaload, 1, 0, 0, []),
  (58, .if_icmp .ge 36, 3, 94, 0, []),
  (61, .iload_n 3, 1, 3, 0, []),
  (62, .aload_n 0, 1, 0, 0, []),
  (63, .getfield 97, 3, 0, 0, []),
  (66, .if_icmp .ge 20, 3, 86, 0, []),
  (69, .aload_n 0, 1, 0, 0, []),
  (70, .getfield 39, 3, 0, 0, []),
  (73, .iload_n 3, 1, 3, 0, []),
  (74, .iaload, 1, 0, 0, []),
  (75, .aload_n 0, 1, 0, 0, []),
  (76, .getfield 70, 3, 0, 0, []),
  (79, .iload_n 1, 1, 1, 0, []),
  (80, .aaload, 1, 1, 0, []),
  (81, .iload_n 3, 1, 3, 0, []),
  (82, .iaload, 1, 1, 0, []),
  (83, .if_icmp .eq 5, 3, 88, 0, []),
  (86, .iload_n 3, 1, 3, 0, []),
  (87, .ireturn, 1, 0, 0, []),
  (88, .iinc 3 1, 3, 3, nI 1, []),
  (91, .goto (-40), 3, 51, 0, []),
  (94, .aload_n 0, 1, 0, 0, []),
  (95, .getfield 97, 3, 0, 0, []),
  (98, .aload_n 0, 1, 0, 0, []),
  (99, .getfield 67, 3, 0, 0, []),
  (102, .iload_n 1, 1, 1, 0, []),
  (103, .iaload, 1, 0, 0, []),
  (104, .if_icmp .le 12, 3, 116, 0, []),
  (107, .aload_n 0, 1, 0, 0, []),
  (108, .getfield 67, 3, 0, 0, []),
  (111, .iload_n 1, 1, 1, 0, []),
  (112, .iaload, 1, 0, 0, []),
  (113, .goto 4, 3, 117, 0, []),
  (116, .iconst (-1), 1, 0, -1, []),
  (117, .ireturn, 1, 0, 0, []),
  (118, .iconst 0, 1, 0, nI 0, []),
  (119, .istore_n 3, 1, 3, 0, []),
  (120, .iconst 0, 1, 0, nI 0, []),
  (121, .istore 4, 2, 4, 0, []),
  (123, .iload_n 2, 1, 2, 0, []),
  (124, .iconst 1, 1, 0, nI 1, []),
  (125, .if_icmp .ne 36, 3, 161, 0, []),
  (128, .iload 4, 2, 4, 0, []),
  (130, .iconst 5, 1, 0, nI 5, []),
  (131, .if_icmp .ge 30, 3, 161, 0, []),
  (134, .aload_n 0, 1, 0, 0, []),
  (135, .iload_n 1, 1, 1, 0, []),
  (136, .iload 4, 2, 4, 0, []),
  (138, .aload_n 0, 1, 0, 0, []),
  (139, .getfield 109, 3, 0, 0, []),
  (142, .invokevirtual 370, 3, 0, 0, []),
  (145, .ifCond .eq 10, 3, 155, 0, []),
  (148, .iload_n 3, 1, 3, 0, []),
  (149, .iconst 1, 1, 0, nI 1, []),
  (150, .iload 4, 2, 4, 0, []),
  (152, .ishl, 1, 0, 0, []),
  (153, .ior, 1, 0, 0, []),
  (154, .istore_n 3, 1, 3, 0, []),
  (155, .iinc 4 1, 3, 4, nI 1, []),
  (158, .goto (-35), 3, 123, 0, []),
  (161, .iconst 0, 1, 0, nI 0, []),
  (162, .istore 4, 2, 4, 0, []),
  (164, .iload_n 2, 1, 2, 0, []),
  (165, .iconst 2, 1, 0, nI 2, []),
  (166, .if_icmp .ne 36, 3, 202, 0, []),
  (169, .iload 4, 2, 4, 0, []),
  (171, .iconst 4, 1, 0, nI 4, []),
  (172, .if_icmp .ge 30, 3, 202, 0, []),
  (175, .aload_n 0, 1, 0, 0, []),
  (176, .iload_n 1, 1, 1, 0, []),
  (177, .aload_n 0, 1, 0, 0, []),
  (178, .invokevirtual 130, 3, 0, 0, []),
  (181, .iload 4, 2, 4, 0, []),
  (183, .invokevirtual 370, 3, 0, 0, []),
  (186, .ifCond .eq 10, 3, 196, 0, []),
  (189, .iload_n 3, 1, 3, 0, []),
  (190, .iconst 1, 1, 0, nI 1, []),
  (191, .iload 4, 2, 4, 0, []),
  (193, .ishl, 1, 0, 0, []),
  (194, .ior, 1, 0, 0, []),
  (195, .istore_n 3, 1, 3, 0, []),
  (196, .iinc 4 1, 3, 4, nI 1, []),
  (199, .goto (-35), 3, 164, 0, []),
  (202, .iload_n 3, 1, 3, 0, []),
  (203, .ireturn, 1, 0, 0, [])]
theorem kk_X8_tells : (k_X8_tells.all fun e => mChk cX8_tells e.1 e.2) = true := by decide +kernel
def l_X8_tells : List (Nat × Nat × (mG → mT)) := [(3 * 367 + 1, 1, t_X8_isSheet), (3 * 214 + 1, 3, t_X8_in), (3 * 370, 3 + 1, t_X8_isSo), (3 * 130, 0 + 1, t_X8_trumpNow)]
def f_X8_tells (g : mG) : mF := (mLk k_X8_tells, mLk fl_RX8, mLk (l_X8_tells.map fun e => (e.1, e.2.1, e.2.2 g)), mLk ([] : List (Nat × mV)), mLk ([] : List (Nat × mV)), some .int)
theorem m_X8_tells (g : mG) : mMono (f_X8_tells g) := mMonoL (g := g) (l := l_X8_tells) (List.forall_mem_cons.mpr ⟨mo_X8_isSheet, List.forall_mem_cons.mpr ⟨mo_X8_in, List.forall_mem_cons.mpr ⟨mo_X8_isSo, List.forall_mem_cons.mpr ⟨mo_X8_trumpNow, fun _ h => absurd h List.not_mem_nil⟩⟩⟩⟩) rfl

theorem w_te_0 (g : mG) (M : mM) (P : mP) (x y : Int32)
    (h : ((fIn x (nI 0) (nI 3)) = 0 ∨ (fIn x (nI 0) (nI 3)) = 1) ∧ (((fIn x (nI 0) (nI 3)) = 0 → P (some (.inl (-2))) M) ∧ (¬ ((fIn x (nI 0) (nI 3)) = 0) → (¬ (fIn y (nI 0) (nI 2)) = 0 → vp_in x 4 ∧ ((0 ≤ (M 83 x.toNatClampNeg) → vp_in x 4 ∧ (((M 84 x.toNatClampNeg) ≤ (nI 8) → mRun (mSx g) (f_X8_tells g) P (45, [some (.inr (some 50)), some (.inl x), some (.inl y), none, none], [], M)) ∧ (¬ ((M 84 x.toNatClampNeg) ≤ (nI 8)) → P (some (.inl (-2))) M))) ∧ (¬ (0 ≤ (M 83 x.toNatClampNeg)) → P (some (.inl (-11))) M))) ∧ (¬ (¬ (fIn y (nI 0) (nI 2)) = 0) → P (some (.inl (-2))) M)))) :
    mRun (mSx g) (f_X8_tells g) P (0, [some (.inr (some 50)), some (.inl x), some (.inl y), none, none], [], M) := mRun.vc (m_X8_tells g) [45] 21 h

theorem w_te_45 (g : mG) (M : mM) (P : mP) (x y : Int32)
    (h : (¬ y = 0 → mRun (mSx g) (f_X8_tells g) P (123, [some (.inr (some 50)), some (.inl x), some (.inl y), some (.inl (nI 0)), some (.inl (nI 0))], [], M)) ∧ (¬ (¬ y = 0) → mRun (mSx g) (f_X8_tells g) P (51, [some (.inr (some 50)), some (.inl x), some (.inl y), some (.inl (nI 0)), none], [], M))) :
    mRun (mSx g) (f_X8_tells g) P (45, [some (.inr (some 50)), some (.inl x), some (.inl y), none, none], [], M) := mRun.vc (m_X8_tells g) [51, 123] 7 h

theorem w_te_51 (g : mG) (M : mM) (P : mP) (x y i : Int32)
    (h : vp_in x 4 ∧ (((M 84 x.toNatClampNeg) ≤ i → vp_in x 4 ∧ (((M 50 19) ≤ (M 84 x.toNatClampNeg) → P (some (.inl (-1))) M) ∧ (¬ ((M 50 19) ≤ (M 84 x.toNatClampNeg)) → vp_in x 4 ∧ (P (some (.inl (M 84 x.toNatClampNeg))) M)))) ∧ (¬ ((M 84 x.toNatClampNeg) ≤ i) → ((M 50 19) ≤ i → P (some (.inl i)) M) ∧ (¬ ((M 50 19) ≤ i) → vp_in i 8 ∧ (∃ (n4 k5 c6 : Nat) (rs7 : List (Option Nat)), (mSx g)[85]? = some (1, n4, rs7) ∧ x = nI k5 ∧ k5 < n4 ∧ n4 < 2 ^ 31 ∧ rs7[k5]? = some (some c6) ∧ (∃ (n8 : Nat) (rs9 : List (Option Nat)), (mSx g)[c6]? = some (0, n8, rs9) ∧ vp_in i n8 ∧ (((M 62 i.toNatClampNeg) = (M c6 i.toNatClampNeg) → mRun (mSx g) (f_X8_tells g) P (51, [some (.inr (some 50)), some (.inl x), some (.inl y), some (.inl (i + (nI 1))), none], [], M)) ∧ (¬ ((M 62 i.toNatClampNeg) = (M c6 i.toNatClampNeg)) → P (some (.inl i)) M)))))))) :
    mRun (mSx g) (f_X8_tells g) P (51, [some (.inr (some 50)), some (.inl x), some (.inl y), some (.inl i), none], [], M) := mRun.vc (m_X8_tells g) [51] 24 h

theorem w_te_123 (g : mG) (M : mM) (P : mP) (x y s t : Int32)
    (h : (¬ y = (nI 1) → mRun (mSx g) (f_X8_tells g) P (164, [some (.inr (some 50)), some (.inl x), some (.inl y), some (.inl s), some (.inl (nI 0))], [], M)) ∧ (¬ (¬ y = (nI 1)) → ((nI 5) ≤ t → mRun (mSx g) (f_X8_tells g) P (164, [some (.inr (some 50)), some (.inl x), some (.inl y), some (.inl s), some (.inl (nI 0))], [], M)) ∧ (¬ ((nI 5) ≤ t) → ∃ x3 : aZ × Nat × Int32 × Nat, pre_X8_isSo x3 [.inr (some 50), .inl x, .inl t, .inl (M 50 14)] M ∧ ∀ (r5 : Int32) (M4 : mM), post_X8_isSo x3 [.inr (some 50), .inl x, .inl t, .inl (M 50 14)] M r5 M4 → ((r5 = 0 → mRun (mSx g) (f_X8_tells g) P (123, [some (.inr (some 50)), some (.inl x), some (.inl y), some (.inl s), some (.inl (t + (nI 1)))], [], M4)) ∧ (¬ (r5 = 0) → mRun (mSx g) (f_X8_tells g) P (123, [some (.inr (some 50)), some (.inl x), some (.inl y), some (.inl (s ||| ((nI 1) <<< (t &&& 31)))), some (.inl (t + (nI 1)))], [], M4)))))) :
    mRun (mSx g) (f_X8_tells g) P (123, [some (.inr (some 50)), some (.inl x), some (.inl y), some (.inl s), some (.inl t)], [], M) := mRun.vc (m_X8_tells g) [123, 164] 22 h

theorem w_te_164 (g : mG) (M : mM) (P : mP) (x y s t : Int32)
    (h : (¬ y = (nI 2) → P (some (.inl s)) M) ∧ (¬ (¬ y = (nI 2)) → ((nI 4) ≤ t → P (some (.inl s)) M) ∧ (¬ ((nI 4) ≤ t) → (¬ (M 50 9) = (-1) → (∃ x4 : aZ × Nat × Int32 × Nat, pre_X8_isSo x4 [.inr (some 50), .inl x, .inl (M 50 9), .inl t] M ∧ ∀ (r6 : Int32) (M5 : mM), post_X8_isSo x4 [.inr (some 50), .inl x, .inl (M 50 9), .inl t] M r6 M5 → ((r6 = 0 → mRun (mSx g) (f_X8_tells g) P (164, [some (.inr (some 50)), some (.inl x), some (.inl y), some (.inl s), some (.inl (t + (nI 1)))], [], M5)) ∧ (¬ (r6 = 0) → mRun (mSx g) (f_X8_tells g) P (164, [some (.inr (some 50)), some (.inl x), some (.inl y), some (.inl (s ||| ((nI 1) <<< (t &&& 31)))), some (.inl (t + (nI 1)))], [], M5))))) ∧ (¬ (¬ (M 50 9) = (-1)) → (∃ x8 : aZ × Nat × Int32 × Nat, pre_X8_isSo x8 [.inr (some 50), .inl x, .inl (nI 4), .inl t] M ∧ ∀ (r10 : Int32) (M9 : mM), post_X8_isSo x8 [.inr (some 50), .inl x, .inl (nI 4), .inl t] M r10 M9 → ((r10 = 0 → mRun (mSx g) (f_X8_tells g) P (164, [some (.inr (some 50)), some (.inl x), some (.inl y), some (.inl s), some (.inl (t + (nI 1)))], [], M9)) ∧ (¬ (r10 = 0) → mRun (mSx g) (f_X8_tells g) P (164, [some (.inr (some 50)), some (.inl x), some (.inl y), some (.inl (s ||| ((nI 1) <<< (t &&& 31)))), some (.inl (t + (nI 1)))], [], M9)))))))) :
    mRun (mSx g) (f_X8_tells g) P (164, [some (.inr (some 50)), some (.inl x), some (.inl y), some (.inl s), some (.inl t)], [], M) := mRun.vc (m_X8_tells g) [164] 22 h

theorem te_51 (g : mG) (P : mP) (M : mM) (z : aZ) (k : Nat) (y : Int32) (hk : k < 4) (hR : RpM M z) (hI : zInv z) (h8 : (z.2.2.2 k).2.1 ≤ 8) (hP : ∀ v, v = tFirst (zT z.2.1) (z.2.2.2 k) → P (some (.inl v)) M) :
    ∀ (n i : Nat), i + n = min (tFull (zT z.2.1)) (z.2.2.2 k).2.1 → fO (fun i => decide ((z.2.2.2 k).2.2 i = nI (tWin (zT z.2.1) i))) (min (tFull (zT z.2.1)) (z.2.2.2 k).2.1) 0 = fO (fun i => decide ((z.2.2.2 k).2.2 i = nI (tWin (zT z.2.1) i))) n i → mRun (mSx g) (f_X8_tells g) P (51, [some (.inr (some 50)), some (.inl (nI k)), some (.inl y), some (.inl (nI i)), none], [], M)
  | 0, i, hi, hf => by
    have hl := hI.T.len
    have hf8 : tFull (zT z.2.1) ≤ 8 := by unfold tFull; omega
    have e19 : M 50 19 = nI (tFull (zT z.2.1)) := hR.T.2.2.1.1
    obtain ⟨a1, a2, a3⟩ := hR.2.2.2.2 k hk
    have v4 : vp_in (nI k) 4 := vp_in_nI hk (by decide)
    have hfin : ∀ v, v = (if tFull (zT z.2.1) = (z.2.2.2 k).2.1 then (-1 : Int32) else nI (min (tFull (zT z.2.1)) (z.2.2.2 k).2.1)) → P (some (.inl v)) M := fun v e => hP v (by
      unfold tFirst
      rw [hf, fO]
      exact e)
    refine w_te_51 g M P _ _ _ ⟨v4, ?_⟩
    rw [nI_clamp (by omega), a2, e19]
    refine ⟨fun w => ⟨v4, fun w2 => hfin _ ?_, fun w2 => ⟨v4, hfin _ ?_⟩⟩, fun w => ⟨fun w2 => hfin _ ?_, fun w2 => ?_⟩⟩
    · have w' := (nI_leI (by omega) (by omega)).mp w
      have w2' := (nI_leI (by omega) (by omega)).mp w2
      rw [if_pos (by omega)]
    · have w' := (nI_leI (by omega) (by omega)).mp w
      have w2' : ¬ tFull (zT z.2.1) ≤ (z.2.2.2 k).2.1 := fun q => w2 (nI_le q (by omega))
      rw [if_neg (by omega), show min (tFull (zT z.2.1)) (z.2.2.2 k).2.1 = (z.2.2.2 k).2.1 by omega]
    · have w' : ¬ (z.2.2.2 k).2.1 ≤ i := fun q => w (nI_le q (by omega))
      rw [if_neg (by omega), show min (tFull (zT z.2.1)) (z.2.2.2 k).2.1 = i by omega]
    · exfalso
      have w' : ¬ (z.2.2.2 k).2.1 ≤ i := fun q => w (nI_le q (by omega))
      have w2' : ¬ tFull (zT z.2.1) ≤ i := fun q => w2 (nI_le q (by omega))
      omega
  | n + 1, i, hi, hf => by
    have hl := hI.T.len
    have hf8 : tFull (zT z.2.1) ≤ 8 := by unfold tFull; omega
    have e19 : M 50 19 = nI (tFull (zT z.2.1)) := hR.T.2.2.1.1
    obtain ⟨a1, a2, a3⟩ := hR.2.2.2.2 k hk
    have v4 : vp_in (nI k) 4 := vp_in_nI hk (by decide)
    have e62 : M 62 i = nI (tWin (zT z.2.1) i) := by
      have hif : i < tFull (zT z.2.1) := by omega
      have := hR.T.2.2.1.2.2.2.2.2.2.1 i (by omega)
      unfold tFull at hif
      rw [if_pos hif] at this
      exact this
    refine w_te_51 g M P _ _ _ ⟨v4, ?_⟩
    rw [nI_clamp (show k < 2 ^ 31 by omega), nI_clamp (show i < 2 ^ 31 by omega), a2, e19, e62, nI_add]
    refine ⟨fun w => absurd w (nI_ge (by omega) (by omega)), fun _ => ⟨fun w => absurd w (nI_ge (by omega) (by omega)), fun _ => ⟨vp_in_nI (by omega) (by decide), rr_at (i := k) o_items (by decide) hk (ri_at o_items hk (show i < 40 by omega) (by decide) ?_)⟩⟩⟩
    rw [a3 i (by omega)]
    rw [fO] at hf
    refine ⟨fun w => ?_, fun w => ?_⟩
    · refine te_51 g P M z k y hk hR hI h8 hP n (i + 1) (by omega) ?_
      rw [hf, if_pos (decide_eq_true w.symm)]
    · refine hP _ ?_
      unfold tFirst
      rw [hf, if_neg (by rw [decide_eq_true_eq]; exact fun y => w y.symm)]
theorem bS_s (f : Nat → Bool) (k : Nat) : bS f (k + 1) = if f k then bS f k ||| nI 1 <<< (nI k &&& 31) else bS f k := rfl
theorem te_164 (g : mG) (P : mP) (M : mM) (z : aZ) (k : Nat) (hk : k < 4) (hR : RpM M z) (hI : zInv z) (hP : ∀ v, v = tRk (zT z.2.1) (z.2.2.2 k) → P (some (.inl v)) M) :
    ∀ (n t : Nat), t + n = 4 → mRun (mSx g) (f_X8_tells g) P (164, [some (.inr (some 50)), some (.inl (nI k)), some (.inl (nI 2)), some (.inl (bS (fun h => dSo (zT z.2.1) (z.2.2.2 k) (trN (zT z.2.1)) h) t)), some (.inl (nI t))], [], M)
  | 0, t, h => by
    obtain rfl : t = 4 := by omega
    exact w_te_164 g M P _ _ _ _ ⟨fun w => absurd rfl w, fun _ => ⟨fun _ => hP _ rfl, fun w => absurd (nI_le (Nat.le_refl 4) (by decide)) w⟩⟩
  | n + 1, t, h => by
    have go := te_164 g P M z k hk hR hI hP n (t + 1) (by omega)
    rw [bS_s] at go
    refine w_te_164 g M P _ _ _ _ ⟨fun w => absurd rfl w, fun _ => ⟨fun w => absurd w (nI_ge (by omega) (by decide)), fun _ => ?_⟩⟩
    have e9 : M 50 9 = trumpI (zT z.2.1) := hR.T.2.1.2.1
    have step : ∀ u : Int32, u = trN (zT z.2.1) → ∃ x4 : aZ × Nat × Int32 × Nat, pre_X8_isSo x4 [.inr (some 50), .inl (nI k), .inl u, .inl (nI t)] M ∧ ∀ (r6 : Int32) (M5 : mM), post_X8_isSo x4 [.inr (some 50), .inl (nI k), .inl u, .inl (nI t)] M r6 M5 → (r6 = 0 → mRun (mSx g) (f_X8_tells g) P (164, [some (.inr (some 50)), some (.inl (nI k)), some (.inl (nI 2)), some (.inl (bS (fun h => dSo (zT z.2.1) (z.2.2.2 k) (trN (zT z.2.1)) h) t)), some (.inl (nI t + nI 1))], [], M5)) ∧ (¬ (r6 = 0) → mRun (mSx g) (f_X8_tells g) P (164, [some (.inr (some 50)), some (.inl (nI k)), some (.inl (nI 2)), some (.inl ((bS (fun h => dSo (zT z.2.1) (z.2.2.2 k) (trN (zT z.2.1)) h) t) ||| (nI 1 <<< (nI t &&& 31)))), some (.inl (nI t + nI 1))], [], M5)) := fun u hu => by
      refine ⟨(z, k, u, t), ⟨rfl, hR, hI, hk, by show t < 4; omega⟩, fun r M5 hr => ?_⟩
      obtain ⟨hv, rfl⟩ := hr
      have hv' : r = mb (dSo (zT z.2.1) (z.2.2.2 k) u t = true) := hv
      rw [hv', mb_0, hu, nI_add]
      refine ⟨fun w => ?_, fun w => ?_⟩
      · rw [if_neg w] at go
        exact go
      · rw [if_pos (Classical.not_not.mp w)] at go
        exact go
    rw [e9]
    have hB := hI.T.2.1.2.2.2.1
    cases hb : (zT z.2.1).2.1.2.1 with
    | none =>
      have ht : trumpI (zT z.2.1) = -1 := by unfold trumpI; rw [hb]; rfl
      have hn : trN (zT z.2.1) = nI 4 := by unfold trN; rw [hb]; rfl
      exact ⟨fun w => absurd ht w, fun _ => step _ hn.symm⟩
    | some v =>
      obtain ⟨n', t', q'⟩ := v
      have h5 := (hB n' t' q' hb).2.2.1
      have ht : trumpI (zT z.2.1) = nI t' := by unfold trumpI; rw [hb]; rfl
      have hn : trN (zT z.2.1) = trumpI (zT z.2.1) := by unfold trN; rw [hb]; rfl
      exact ⟨fun _ => step _ hn.symm, fun w => absurd (by rw [ht]; exact ne_m1 (by omega)) w⟩
theorem te_123 (g : mG) (P : mP) (M : mM) (z : aZ) (k : Nat) (hk : k < 4) (hR : RpM M z) (hI : zInv z) (hP : ∀ v, v = tTr (zT z.2.1) (z.2.2.2 k) → P (some (.inl v)) M) :
    ∀ (n t : Nat), t + n = 5 → mRun (mSx g) (f_X8_tells g) P (123, [some (.inr (some 50)), some (.inl (nI k)), some (.inl (nI 1)), some (.inl (bS (fun t => dSo (zT z.2.1) (z.2.2.2 k) (nI t) (zT z.2.1).1.2.2.1) t)), some (.inl (nI t))], [], M)
  | 0, t, h => by
    obtain rfl : t = 5 := by omega
    exact w_te_123 g M P _ _ _ _ ⟨fun w => absurd rfl w, fun _ => ⟨fun _ => w_te_164 g M P _ _ _ _ ⟨fun _ => hP _ rfl, fun w => absurd (by decide) w⟩, fun w => absurd (nI_le (Nat.le_refl 5) (by decide)) w⟩⟩
  | n + 1, t, h => by
    have go := te_123 g P M z k hk hR hI hP n (t + 1) (by omega)
    rw [bS_s] at go
    have e14 : M 50 14 = nI (zT z.2.1).1.2.2.1 := hR.T.1.2.2.2.1
    refine w_te_123 g M P _ _ _ _ ⟨fun w => absurd rfl w, fun _ => ⟨fun w => absurd w (nI_ge (by omega) (by decide)), fun _ => ?_⟩⟩
    rw [e14]
    refine ⟨(z, k, nI t, (zT z.2.1).1.2.2.1), ⟨rfl, hR, hI, hk, hI.T.1.2.2.1⟩, fun r M5 hr => ?_⟩
    obtain ⟨hv, rfl⟩ := hr
    have hv' : r = mb (dSo (zT z.2.1) (z.2.2.2 k) (nI t) (zT z.2.1).1.2.2.1 = true) := hv
    rw [hv', mb_0, nI_add]
    refine ⟨fun w => ?_, fun w => ?_⟩
    · rw [if_neg w] at go
      exact go
    · rw [if_pos (Classical.not_not.mp w)] at go
      exact go
theorem run_X8_tells : mRunOf 5 t_X8_tells f_X8_tells := runM2 (by decide) (fun g M P z x y hR hI hP => by
  have hQ : ∀ v, v = (F_tells z [x, y]).1 → P (some (.inl v)) M := fun v e => hP v M e hR FrM.refl
  refine w_te_0 g M P x y ?_
  rw [fI3, fI2]
  refine ⟨mb_01, ?_⟩
  rcases ix_cs x (n := 4) (by decide) with ⟨hx, e1⟩ | ⟨k, hk, rfl, e1⟩
  · rw [show (F_tells z [x, y]).1 = -2 by simp only [F_tells, e1]] at hQ
    rw [e1, mb_no]
    exact ⟨fun _ => hQ _ rfl, fun h => absurd rfl h⟩
  rw [e1, mb_so]
  refine ⟨fun h => absurd h (by decide), fun _ => ?_⟩
  rcases ix_cs y (n := 3) (by decide) with ⟨hy, e2⟩ | ⟨j, hj, rfl, e2⟩
  · rw [show (F_tells z [nI k, y]).1 = -2 by simp only [F_tells, e1, e2]] at hQ
    rw [e2, mb_no]
    exact ⟨fun h => absurd rfl h, fun _ => hQ _ rfl⟩
  rw [show (F_tells z [nI k, nI j]).1 = if (z.2.2.2 k).1 = -1 then -11 else if 8 < (z.2.2.2 k).2.1 then -2 else if j = 0 then tFirst (zT z.2.1) (z.2.2.2 k) else if j = 1 then tTr (zT z.2.1) (z.2.2.2 k) else tRk (zT z.2.1) (z.2.2.2 k) by simp only [F_tells, e1, e2]] at hQ
  obtain ⟨a1, a2, a3⟩ := hR.2.2.2.2 k hk
  have hs := hI.2.2.2 k hk
  have h40 := hs.2.1
  have v4 : vp_in (nI k) 4 := vp_in_nI hk (by decide)
  rw [e2, mb_so, nI_clamp (by omega), a1, a2, (sh_there hs).1, nI_leI (by omega) (by decide)]
  refine ⟨fun _ => ⟨v4, fun hz => ⟨v4, fun h8 => ?_, fun h8 => ?_⟩, fun hz => ?_⟩, fun h => absurd (by decide) h⟩
  · rw [if_neg hz, if_neg (by omega)] at hQ
    rcases (by omega : j = 0 ∨ j = 1 ∨ j = 2) with rfl | rfl | rfl
    · rw [if_pos rfl] at hQ
      refine w_te_45 g M P _ _ ⟨fun w => absurd rfl w, fun _ => ?_⟩
      exact te_51 g P M z k _ hk hR hI h8 hQ _ 0 (Nat.zero_add _) rfl
    · rw [if_neg (by decide), if_pos rfl] at hQ
      refine w_te_45 g M P _ _ ⟨fun _ => ?_, fun w => absurd (by decide) w⟩
      have go := te_123 g P M z k hk hR hI hQ 5 0 rfl
      rw [bS_0] at go
      exact go
    · rw [if_neg (by decide), if_neg (by decide)] at hQ
      refine w_te_45 g M P _ _ ⟨fun _ => w_te_123 g M P _ _ _ _ ⟨fun _ => ?_, fun w => absurd (by decide) w⟩, fun w => absurd (by decide) w⟩
      have go := te_164 g P M z k hk hR hI hQ 4 0 rfl
      rw [bS_0] at go
      exact go
  · rw [if_neg hz, if_pos (by omega)] at hQ
    exact hQ _ rfl
  · rw [if_pos (Classical.not_not.mp hz)] at hQ
    exact hQ _ rfl)

theorem ok_X8_tells : mOK yX8_tells cX8_tells 5 (some .int) 4 t_X8_tells := mOK.of f_X8_tells (by decide) (fun _ => rfl) (fun g => mCodeOK kk_X8_tells) (fun g => mFldL fk_RX8 rfl) (fun g idx v h => by cases h) (fun g idx v h => by cases h) (mCalL (l := l_X8_tells) (List.forall_mem_cons.mpr ⟨mSite.S (idx := 367) ok_X8_isSheet (by decide) (by decide) wc_X8_isSheet wk_RX8_367 wt_X8_isSheet wn_RX8 wd_X8_isSheet, List.forall_mem_cons.mpr ⟨mSite.S (idx := 214) ok_X8_in (by decide) (by decide) wc_X8_in wk_RX8_214 wt_X8_in wn_RX8 wd_X8_in, List.forall_mem_cons.mpr ⟨mSite.V (idx := 370) ok_X8_isSo (by decide) (by decide) rv_X8_isSo wc_X8_isSo wk_RX8_370 wi_X8_isSo wl_X8_isSo wn_RX8 wd_X8_isSo, List.forall_mem_cons.mpr ⟨mSite.V (idx := 130) ok_X8_trumpNow (by decide) (by decide) rv_X8_trumpNow wc_X8_trumpNow wk_RX8_130 wi_X8_trumpNow wl_X8_trumpNow wn_RX8 wd_X8_trumpNow, fun _ h => absurd h List.not_mem_nil⟩⟩⟩⟩) (fun _ => rfl)) run_X8_tells

