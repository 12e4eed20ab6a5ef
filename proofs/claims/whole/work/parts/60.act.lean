abbrev t_X7_act : mG → mT := pub 0 F_act
theorem mo_X7_act : mMn t_X7_act := pub_mono
theorem rv_X7_act : mHasR yX7_act 0 t_X7_act := pub_recv rfl
def k_X7_act : List (Nat × mI) := [(0, .aload_n 0, 1, 0, 0, []),
  (1, .getfield 10, 3, 0, 0, []),
  (4, .invokevirtual 62, 3, 0, 0, []),
  (7, .aload_n 0, 1, 0, 0, []),
  (8, .getfield 10, 3, 0, 0, []),
  (11, .iconst 0, 1, 0, nI 0, []),
  (12, .putfield 54, 3, 0, 0, []),
  (15, .aload_n 0, 1, 0, 0, []),
  (16, .getfield 10, 3, 0, 0, []),
  (19, .getfield 65, 3, 0, 0, []),
  (22, .iconst (-1), 1, 0, -1, []),
  (23, .if_icmp .eq 14, 3, 37, 0, []),
  (26, .bipush (-100), 2, 0, -100, []),
  (28, .aload_n 0, 1, 0, 0, []),
  (29, .getfield 10, 3, 0, 0, []),
  (32, .getfield 65, 3, 0, 0, []),
  (35, .isub, 1, 0, 0, []),
  (36, .ireturn, 1, 0, 0, []),
  (37, .aload_n 0, 1, 0, 0, []),
  (38, .aload_n 0, 1, 0, 0, []),
  (39, .getfield 10, 3, 0, 0, []),
  (42, .getfield 68, 3, 0, 0, []),
  (45, .aload_n 0, 1, 0, 0, []),
  (46, .getfield 10, 3, 0, 0, []),
  (49, .getfield 71, 3, 0, 0, []),
  (52, .invokevirtual 74, 3, 0, 0, []),
  (55, .istore_n 1, 1, 1, 0, []),
  (56, .iload_n 1, 1, 1, 0, []),
  (57, .ifCond .eq 5, 3, 62, 0, []),
  (60, .iload_n 1, 1, 1, 0, []),
  (61, .ireturn, 1, 0, 0, []),
  (62, .aload_n 0, 1, 0, 0, []),
  (63, .aload_n 0, 1, 0, 0, []),
  (64, .getfield 10, 3, 0, 0, []),
  (67, .getfield 68, 3, 0, 0, []),
  (70, .aload_n 0, 1, 0, 0, []),
  (71, .getfield 10, 3, 0, 0, []),
  (74, .getfield 71, 3, 0, 0, []),
  (77, .aload_n 0, 1, 0, 0, []),
  (78, .getfield 10, 3, 0, 0, []),
  (81, .getfield 78, 3, 0, 0, []),
  (84, .invokevirtual 81, 3, 0, 0, []),
  (87, .ifCond .ne 6, 3, 93, 0, []),
  (90, .bipush (-6), 2, 0, -6, []),
  (92, .ireturn, 1, 0, 0, []),
  (93, .aload_n 0, 1, 0, 0, []),
  (94, .getfield 19, 3, 0, 0, []),
  (97, .aload_n 0, 1, 0, 0, []),
  (98, .getfield 10, 3, 0, 0, []),
  (101, .getfield 68, 3, 0, 0, []),
  (104, .aload_n 0, 1, 0, 0, []),
  (105, .getfield 10, 3, 0, 0, []),
  (108, .getfield 71, 3, 0, 0, []),
  (111, .aload_n 0, 1, 0, 0, []),
  (112, .getfield 10, 3, 0, 0, []),
  (115, .getfield 78, 3, 0, 0, []),
  (118, .aload_n 0, 1, 0, 0, []),
  (119, .getfield 29, 3, 0, 0, []),
  (122, .invokevirtual 85, 3, 0, 0, []),
  (125, .invokevirtual 89, 3, 0, 0, []),
  (128, .aload_n 0, 1, 0, 0, []),
  (129, .getfield 29, 3, 0, 0, []),
  (132, .aload_n 0, 1, 0, 0, []),
  (133, .getfield 10, 3, 0, 0, []),
  (136, .getfield 68, 3, 0, 0, []),
  (139, .aload_n 0, 1, 0, 0, []),
  (140, .getfield 10, 3, 0, 0, []),
  (143, .getfield 71, 3, 0, 0, []),
  (146, .aload_n 0, 1, 0, 0, []),
  (147, .getfield 10, 3, 0, 0, []),
  (150, .getfield 78, 3, 0, 0, []),
  (153, .invokevirtual 92, 3, 0, 0, []),
  (156, .aload_n 0, 1, 0, 0, []),
  (157, .getfield 19, 3, 0, 0, []),
  (160, .getfield 96, 3, 0, 0, []),
  (163, .ireturn, 1, 0, 0, [])]
theorem kk_X7_act : (k_X7_act.all fun e => mChk cX7_act e.1 e.2) = true := by decide +kernel
def l_X7_act : List (Nat × Nat × (mG → mT)) := [(3 * 62, 0 + 1, t_X6_read), (3 * 74, 2 + 1, t_X7_refusalOf), (3 * 81, 3 + 1, t_X7_isFair), (3 * 85, 0 + 1, t_X5_inTurn), (3 * 89, 4 + 1, t_X0_add), (3 * 92, 3 + 1, t_X5_perform)]
def f_X7_act (g : mG) : mF := (mLk k_X7_act, mLk fl_RX7, mLk (l_X7_act.map fun e => (e.1, e.2.1, e.2.2 g)), mLk ([] : List (Nat × mV)), mLk ([] : List (Nat × mV)), some .int)
theorem m_X7_act (g : mG) : mMono (f_X7_act g) := mMonoL (g := g) (l := l_X7_act) (List.forall_mem_cons.mpr ⟨mo_X6_read, List.forall_mem_cons.mpr ⟨mo_X7_refusalOf, List.forall_mem_cons.mpr ⟨mo_X7_isFair, List.forall_mem_cons.mpr ⟨mo_X5_inTurn, List.forall_mem_cons.mpr ⟨mo_X0_add, List.forall_mem_cons.mpr ⟨mo_X5_perform, fun _ h => absurd h List.not_mem_nil⟩⟩⟩⟩⟩⟩) rfl

set_option maxRecDepth 100000 in
theorem v_act_0 (g : mG) (M : mM) (P : mP) 
    (h : ∃ x1 : List Int32, pre_X6_read x1 [.inr (some 1)] M ∧ ∀ M2 : mM, post_X6_read x1 [.inr (some 1)] M M2 → (let M3 : mM := mW1 M2 1 1 (nI 0); ((M2 1 3) = (-1) → ∃ x5 : aZ × Nat × Int32, pre_X7_refusalOf x5 [.inr (some 0), .inl (M2 1 4), .inl (M2 1 5)] M3 ∧ ∀ (r7 : Int32) (M6 : mM), post_X7_refusalOf x5 [.inr (some 0), .inl (M2 1 4), .inl (M2 1 5)] M3 r7 M6 → ((r7 = 0 → ∃ x9 : aZ × Nat × Int32 × Int32, pre_X7_isFair x9 [.inr (some 0), .inl (M6 1 4), .inl (M6 1 5), .inl (M6 1 6)] M6 ∧ ∀ (r11 : Int32) (M10 : mM), post_X7_isFair x9 [.inr (some 0), .inl (M6 1 4), .inl (M6 1 5), .inl (M6 1 6)] M6 r11 M10 → ((¬ r11 = 0 → (¬ (M10 13 3) = 0 → (¬ (M10 13 3) = (nI 1) → (mRun (mSx g) (f_X7_act g) P (125, [some (.inr (some 0)), some (.inl r7)], [.inl (M10 16 8), .inl (M10 1 6), .inl (M10 1 5), .inl (M10 1 4), .inr (some 3)], M10))) ∧ (¬ (¬ (M10 13 3) = (nI 1)) → (mRun (mSx g) (f_X7_act g) P (125, [some (.inr (some 0)), some (.inl r7)], [.inl (M10 14 1), .inl (M10 1 6), .inl (M10 1 5), .inl (M10 1 4), .inr (some 3)], M10)))) ∧ (¬ (¬ (M10 13 3) = 0) → (mRun (mSx g) (f_X7_act g) P (125, [some (.inr (some 0)), some (.inl r7)], [.inl (-1), .inl (M10 1 6), .inl (M10 1 5), .inl (M10 1 4), .inr (some 3)], M10)))) ∧ (¬ (¬ r11 = 0) → P (some (.inl (-6))) M10))) ∧ (¬ (r7 = 0) → P (some (.inl r7)) M6))) ∧ (¬ ((M2 1 3) = (-1)) → P (some (.inl ((-100) - (M2 1 3)))) M3))) :
    mRun (mSx g) (f_X7_act g) P (0, [some (.inr (some 0)), none], [], M) := mRun.vc (m_X7_act g) [125] 50 h

set_option maxRecDepth 100000 in
theorem v_act_125 (g : mG) (M : mM) (P : mP) (r tv s n w : Int32)
    (h : ((M 3 4) < (nI 90) → let M2 : mM := mUp M 4 (aSet (M 4) 90 (M 3 4) w); let M3 : mM := mUp M2 5 (aSet (M 5) 90 (M 3 4) n); let M4 : mM := mUp M3 6 (aSet (M 6) 90 (M 3 4) s); let M5 : mM := mUp M4 7 (aSet (M 7) 90 (M 3 4) tv); let M6 : mM := mW1 M5 3 4 ((M 3 4) + (nI 1)); ∃ x7 : Nat × aT × Nat × Int32 × Int32, pre_X5_perform x7 [.inr (some 13), .inl (M 1 4), .inl (M 1 5), .inl (M 1 6)] M6 ∧ ∀ M8 : mM, post_X5_perform x7 [.inr (some 13), .inl (M 1 4), .inl (M 1 5), .inl (M 1 6)] M6 M8 → (P (some (.inl (M8 3 4))) M8)) ∧ (¬ ((M 3 4) < (nI 90)) → ∃ x9 : Nat × aT × Nat × Int32 × Int32, pre_X5_perform x9 [.inr (some 13), .inl (M 1 4), .inl (M 1 5), .inl (M 1 6)] M ∧ ∀ M10 : mM, post_X5_perform x9 [.inr (some 13), .inl (M 1 4), .inl (M 1 5), .inl (M 1 6)] M M10 → (P (some (.inl (M10 3 4))) M10))) :
    mRun (mSx g) (f_X7_act g) P (125, [some (.inr (some 0)), some (.inl r)], [.inl tv, .inl s, .inl n, .inl w, .inr (some 3)], M) := mRun.vc (m_X7_act g) [] 17 h

theorem act_end (g : mG) (P : mP) (M : mM) (z : aZ) (r tv : Int32) (w : Nat) (n s : Int32) (hR : RpC M z) (hI : zInv z) (h14 : M 1 4 = nI w) (h15 : M 1 5 = n) (h16 : M 1 6 = s) (htv : tv = turnI (zT z.2.1)) (hl : z.2.1.length < 90) (hf : fit (zT z.2.1) (w, n, s)) (hP : pubP M P (nI (z.2.1.length + 1), z.1, z.2.1 ++ [((w, n, s), turnI (zT z.2.1))], z.2.2)) :
    mRun (mSx g) (f_X7_act g) P (125, [some (.inr (some 0)), some (.inl r)], [.inl tv, .inl s, .inl n, .inl (nI w), .inr (some 3)], M) := by
  have hR' := hR
  obtain ⟨c1, c2, c3, c4, c5, c6⟩ := hR'
  have e34 : M 3 4 = nI z.2.1.length := c2.1
  have hlen := hI.2.1.1
  refine v_act_125 g M P _ _ _ _ _ ?_
  rw [h14, h15, h16, e34]
  refine ⟨fun _ => ?_, fun y => absurd (nI_lt hl (by decide)) y⟩
  rw [aSet_in hl (by decide), aSet_in hl (by decide), aSet_in hl (by decide), aSet_in hl (by decide), nI_add]
  intro M1 M2 M3 M4 M5
  have f : ∀ c, c ≠ 3 → c ≠ 4 → c ≠ 5 → c ≠ 6 → c ≠ 7 → M5 c = M c := fun c a0 a8 a9 a10 a11 => by
    show mW1 (mUp (mUp (mUp (mUp M 4 _) 5 _) 6 _) 7 _) 3 4 _ c = _
    rw [mW1_c a0, mUp_ne a11, mUp_ne a10, mUp_ne a9, mUp_ne a8]
  have g4 : M5 4 = upd (M 4) z.2.1.length (nI w) := by
    show mW1 (mUp (mUp (mUp (mUp M 4 _) 5 _) 6 _) 7 _) 3 4 _ 4 = _
    rw [mW1_c (by decide), mUp_ne (by decide), mUp_ne (by decide), mUp_ne (by decide), mUp_at]
  have g5 : M5 5 = upd (M 5) z.2.1.length n := by
    show mW1 (mUp (mUp (mUp M1 5 _) 6 _) 7 _) 3 4 _ 5 = _
    rw [mW1_c (by decide), mUp_ne (by decide), mUp_ne (by decide), mUp_at]
  have g6 : M5 6 = upd (M 6) z.2.1.length s := by
    show mW1 (mUp (mUp M2 6 _) 7 _) 3 4 _ 6 = _
    rw [mW1_c (by decide), mUp_ne (by decide), mUp_at]
  have g7 : M5 7 = upd (M 7) z.2.1.length tv := by
    show mW1 (mUp M3 7 _) 3 4 _ 7 = _
    rw [mW1_c (by decide), mUp_at]
  have hL5 : RpL 3 M5 (z.2.1 ++ [((w, n, s), turnI (zT z.2.1))]) := RpL_add c2 hl mW1_s g4 g5 g6 (by rw [← htv]; exact g7)
  refine ⟨(13, zT z.2.1, w, n, s), ⟨Or.inl rfl, rfl, RpT_fr c4 (fun k hk => f _ (by omega) (by omega) (by omega) (by omega) (by omega)), fit_ok hI.T hf⟩, fun M7 k => ?_⟩
  obtain ⟨k1, k2⟩ := k
  dsimp only at k1 k2
  have hL7 : RpL 3 M7 (z.2.1 ++ [((w, n, s), turnI (zT z.2.1))]) := RpL_fr hL5 (fun k hk => k2 _ (by omega))
  have hc : M7 3 4 = nI (z.2.1.length + 1) := (congrFun (k2 3 (by omega)) 4).trans mW1_s
  refine hP _ M7 hc (RpC_log hR hL7 ⟨?_, fun l hl => RpL_fr (c3.2 l hl) (fun k hk => by rw [k2 _ (by omega), f _ (by omega) (by omega) (by omega) (by omega) (by omega)])⟩ (by rw [zT_add]; exact k1) (fun c hc => by rw [k2 _ (by omega), f _ (by omega) (by omega) (by omega) (by omega) (by omega)])) (fun c hc => by rw [k2 _ (by omega), f _ (by omega) (by omega) (by omega) (by omega) (by omega)])
  rw [k2 0 (by omega), f 0 (by decide) (by decide) (by decide) (by decide) (by decide)]
  exact c3.1
theorem run_X7_act : mRunOf 2 t_X7_act f_X7_act := runC0 (by decide) (fun g M P z hR hI hP => by
  have hR' := hR
  obtain ⟨c1, c2, c3, c4, c5, c6⟩ := hR'
  refine v_act_0 g M P ⟨z.1, ⟨rfl, c1, hI.1.1⟩, fun M2 k => ?_⟩
  have k' : TS M M2 z.1 (sRead z.1) := k
  obtain ⟨k1, k2, k3⟩ := k'
  intro M3
  have hR3 : RpC M3 ([], z.2) := by
    have f : ∀ c, c ≠ 1 → M3 c = M c := fun c hc => (mW1_c hc).trans (k1 c hc)
    refine ⟨⟨mW1_s, fun j hj => absurd hj (Nat.not_lt_zero j)⟩, RpL_fr c2 (fun k hk => f _ (by omega)), ⟨?_, fun l hl => RpL_fr (c3.2 l hl) (fun k hk => f _ (by omega))⟩, RpT_fr c4 (fun k hk => f _ (by omega)), RpSh_fr c5 (fun c h1 h2 => f c (by omega)), ?_⟩
    · rw [f 0 (by decide)]
      exact c3.1
    · unfold RpLn
      rw [f 48 (by decide)]
      exact c6
  have hF3 : FrC M M3 := fun c hc => (mW1_c (show c ≠ 1 by omega)).trans (k1 c (by omega))
  have hI3 : zInv ([], z.2) := ⟨⟨Nat.zero_le _, fun b hb => absurd hb List.not_mem_nil⟩, hI.2⟩
  cases hs : sRead z.1 with
  | inl f =>
    rw [hs] at k3
    have k3a : M2 1 3 = nI f := k3.1
    have hf := k3.2.1
    rw [k3a]
    refine ⟨fun y => absurd y (ne_m1 (by have := hI.1.1; omega)), fun _ => ?_⟩
    rw [show F_act z [] = (-100 - nI f, [], z.2) by simp only [F_act, hs]] at hP
    exact hP _ M3 rfl hR3 hF3
  | inr x =>
    rw [hs] at k3
    obtain ⟨a3, -, -, a4, a5, a6⟩ := k3
    obtain ⟨w, hw, hxw, hrd⟩ := sRead_ok hs
    have hub : ub x.2.1 = w := by rw [hxw]; exact ub_nI (by omega)
    rw [show F_act z [] = if rRef (zT z.2.1) z.2.1.length w x.2.2.1 = 0 then (if dFair (zT z.2.1) w x.2.2.1 x.2.2.2 = true then (nI (z.2.1.length + 1), [], z.2.1 ++ [((w, x.2.2.1, x.2.2.2), turnI (zT z.2.1))], z.2.2) else (-6, [], z.2)) else (rRef (zT z.2.1) z.2.1.length w x.2.2.1, [], z.2) by simp only [F_act, hs, hub]] at hP
    rw [a3, a4, a5, hxw]
    refine ⟨fun _ => ⟨(([], z.2), w, x.2.2.1), ⟨rfl, hw, hR3, hI3⟩, fun r M4 hr => ?_⟩, fun y => absurd rfl y⟩
    obtain ⟨hr1, hM4⟩ := hr
    have hr2 : r = rRef (zT z.2.1) z.2.1.length w x.2.2.1 := hr1
    have b4 : M4 1 4 = nI w := (congrFun (congrFun hM4 1) 4).trans ((mW1_k (by decide)).trans (a4.trans hxw))
    have b5 : M4 1 5 = x.2.2.1 := (congrFun (congrFun hM4 1) 5).trans ((mW1_k (by decide)).trans a5)
    have b6 : M4 1 6 = x.2.2.2 := (congrFun (congrFun hM4 1) 6).trans ((mW1_k (by decide)).trans a6)
    have hR4 : RpC M4 ([], z.2) := by rw [hM4]; exact hR3
    have hF4 : FrC M M4 := by rw [hM4]; exact hF3
    rw [b4, b5, b6, hr2]
    refine ⟨fun y => ?_, fun y => ?_⟩
    · rw [if_pos y] at hP
      obtain ⟨h90, ht, hn⟩ := rRef_0 y
      refine ⟨(([], z.2), w, x.2.2.1, x.2.2.2), ⟨rfl, hw, hR4, hI3, ht, fun h5 => ?_⟩, fun r2 M5 hr3 => ?_⟩
      · obtain ⟨⟨v, hv, e1⟩, u, hu, e2⟩ := hrd.2.2.1 h5
        have h5' : w = 5 := h5
        rw [h5'] at hn
        rw [e1] at hn
        have h2' : 0 ≤ nI v ∧ nI v < nI 8 := by simpa [dNum] using hn
        have b := (nI_ltI (by omega) (by decide)).mp h2'.2
        refine ⟨?_, ?_⟩
        · show ub x.2.2.1 < 8
          rw [e1, ub_nI (by omega)]
          exact b
        · show ub x.2.2.2 < 4
          rw [e2, ub_nI (by omega)]
          exact hu
      · obtain ⟨hr4, hr5⟩ := hr3
        have hr6 : r2 = mb (dFair (zT z.2.1) w x.2.2.1 x.2.2.2 = true) := hr4
        have hR5 : RpC M5 ([], z.2) := RpC_thought hR4 hr5
        have hF5 : FrC M M5 := hF4.trans (FrP_C hr5)
        have f1 : M5 1 = M4 1 := hr5 1 (by decide)
        rw [hr6]
        by_cases hfa : dFair (zT z.2.1) w x.2.2.1 x.2.2.2 = true
        · rw [if_pos hfa] at hP
          rw [mb_t hfa, f1, b4, b5, b6]
          have hfit := fit_of hI.T hw ht hn hfa hrd
          have hT := hI.T
          have go : ∀ tv, tv = turnI (zT z.2.1) → mRun (mSx g) (f_X7_act g) P (125, [some (.inr (some 0)), some (.inl (rRef (zT z.2.1) z.2.1.length w x.2.2.1))], [.inl tv, .inl x.2.2.2, .inl x.2.2.1, .inl (nI w), .inr (some 3)], M5) := fun tv htv => act_end g P M5 ([], z.2) _ tv w x.2.2.1 x.2.2.2 hR5 hI3 (by rw [f1]; exact b4) (by rw [f1]; exact b5) (by rw [f1]; exact b6) htv h90 hfit (fun v M' h1 h2 h3 => hP v M' h1 h2 (hF5.trans h3))
          obtain ⟨⟨r3, -⟩, ⟨t1, -⟩, hp, -⟩ := hR5.2.2.2.1
          obtain ⟨⟨-, p8, -⟩, -⟩ := hp
          have e3 : M5 13 3 = nI (zT z.2.1).1.1 := r3
          have e14 : M5 14 1 = nI (zT z.2.1).2.1.1.1 := t1
          have e16 : M5 16 8 = nI (aTn (zT z.2.1).2.2.1.1 (zT z.2.1).2.2.1.2.2.2.2 (zT z.2.1).2.2.1.2.2.2.2.length) := p8
          rw [e3, e14, e16]
          refine ⟨fun _ => ⟨fun c0 => ⟨fun c1 => go _ ?_, fun c1 => go _ ?_⟩, fun c0 => go _ ?_⟩, fun y => absurd (by decide) y⟩
          · unfold turnI
            rw [if_neg c0, if_neg c1]
          · unfold turnI
            rw [if_neg c0, if_pos (Classical.not_not.mp c1)]
          · unfold turnI
            rw [if_pos (Classical.not_not.mp c0)]
        · rw [if_neg hfa] at hP
          rw [mb_f hfa]
          exact ⟨fun y => absurd rfl y, fun _ => hP _ M5 rfl hR5 hF5⟩
    · rw [if_neg y] at hP
      exact hP _ M4 rfl hR4 hF4)

theorem ok_X7_act : mOK yX7_act cX7_act 2 (some .int) 20 t_X7_act := mOK.of f_X7_act (by decide) (fun _ => rfl) (fun g => mCodeOK kk_X7_act) (fun g => mFldL fk_RX7 rfl) (fun g idx v h => by cases h) (fun g idx v h => by cases h) (mCalL (l := l_X7_act) (List.forall_mem_cons.mpr ⟨mSite.V (idx := 62) ok_X6_read (by decide) (by decide) rv_X6_read wc_X6_read wk_RX7_62 wi_X6_read wl_X6_read wn_RX6 wd_X6_read, List.forall_mem_cons.mpr ⟨mSite.V (idx := 74) ok_X7_refusalOf (by decide) (by decide) rv_X7_refusalOf wc_X7_refusalOf wk_RX7_74 wi_X7_refusalOf wl_X7_refusalOf wn_RX7 wd_X7_refusalOf, List.forall_mem_cons.mpr ⟨mSite.V (idx := 81) ok_X7_isFair (by decide) (by decide) rv_X7_isFair wc_X7_isFair wk_RX7_81 wi_X7_isFair wl_X7_isFair wn_RX7 wd_X7_isFair, List.forall_mem_cons.mpr ⟨mSite.V (idx := 85) ok_X5_inTurn (by decide) (by decide) rv_X5_inTurn wc_X5_inTurn wk_RX7_85 wi_X5_inTurn wl_X5_inTurn wn_RX5 wd_X5_inTurn, List.forall_mem_cons.mpr ⟨mSite.V (idx := 89) ok_X0_add (by decide) (by decide) rv_X0_add wc_X0_add wk_RX7_89 wi_X0_add wl_X0_add wn_RX0 wd_X0_add, List.forall_mem_cons.mpr ⟨mSite.V (idx := 92) ok_X5_perform (by decide) (by decide) rv_X5_perform wc_X5_perform wk_RX7_92 wi_X5_perform wl_X5_perform wn_RX5 wd_X5_perform, fun _ h => absurd h List.not_mem_nil⟩⟩⟩⟩⟩⟩) (fun _ => rfl)) run_X7_act

