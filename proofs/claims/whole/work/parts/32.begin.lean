/-! ===== CLASS Table: a deal begins; a card is played ===== -/
def pre_X5_beginDeal (q : Nat × aT × Int32) (as : List mV) (M : mM) : Prop := (q.1 = 13 ∨ q.1 = 26) ∧ as = [.inr (some q.1), .inl q.2.2] ∧ RpT q.1 M q.2.1
def post_X5_beginDeal (q : Nat × aT × Int32) (_ : List mV) (M : mM) (M' : mM) : Prop := RpT q.1 M' ((1, q.2.1.1.2), bd0 q.2.1.1.2.1, (aX0, aDl0 q.2.2, 0, 0, []), q.2.1.2.2.2) ∧ FrT q.1 M M'
abbrev t_X5_beginDeal : mG → mT := mRv pre_X5_beginDeal post_X5_beginDeal
theorem mo_X5_beginDeal : mMn t_X5_beginDeal := mRv_mono
theorem rv_X5_beginDeal : mHasR yX5_beginDeal 1 t_X5_beginDeal := by
  intro g as M P hT hl
  obtain ⟨q, ⟨h1, h2, -⟩, -⟩ := hT
  refine ⟨_, _, h2, is_X5 g _ ?_⟩
  rcases h1 with h1 | h1 <;> rw [h1] <;> rfl
def k_X5_beginDeal : List (Nat × mI) := [(0, .aload_n 0, 1, 0, 0, []),
  (1, .iconst 1, 1, 0, nI 1, []),
  (2, .putfield 35, 3, 0, 0, []),
  (5, .aload_n 0, 1, 0, 0, []),
  (6, .getfield 12, 3, 0, 0, []),
  (9, .aload_n 0, 1, 0, 0, []),
  (10, .getfield 39, 3, 0, 0, []),
  (13, .invokevirtual 48, 3, 0, 0, []),
  (16, .aload_n 0, 1, 0, 0, []),
  (17, .getfield 21, 3, 0, 0, []),
  (20, .iload_n 1, 1, 1, 0, []),
  (21, .invokevirtual 91, 3, 0, 0, []),
  (24, .return_, 1, 0, 0, [])]
theorem kk_X5_beginDeal : (k_X5_beginDeal.all fun e => mChk cX5_beginDeal e.1 e.2) = true := by decide +kernel
def l_X5_beginDeal : List (Nat × Nat × (mG → mT)) := [(3 * 48, 1 + 1, t_X1_begin), (3 * 91, 1 + 1, t_X2_dealOut)]
def f_X5_beginDeal (g : mG) : mF := (mLk k_X5_beginDeal, mLk fl_RX5, mLk (l_X5_beginDeal.map fun e => (e.1, e.2.1, e.2.2 g)), mLk ([] : List (Nat × mV)), mLk ([] : List (Nat × mV)), none)
theorem m_X5_beginDeal (g : mG) : mMono (f_X5_beginDeal g) := mMonoL (g := g) (l := l_X5_beginDeal) (List.forall_mem_cons.mpr ⟨mo_X1_begin, List.forall_mem_cons.mpr ⟨mo_X2_dealOut, fun _ h => absurd h List.not_mem_nil⟩⟩) rfl

theorem v_bd_0_13 (g : mG) (M : mM) (P : mP) (y : Int32)
    (h : let M1 : mM := mW1 M 13 3 (nI 1); let M2 : mM := mUp M1 15 (aFill (M 15) 10 (-1)); let M3 : mM := mW1 M2 14 1 (M 13 4); let M4 : mM := mW1 M3 14 2 (-1); let M5 : mM := mW1 M4 14 3 (-1); let M6 : mM := mW1 M5 14 4 (-1); let M7 : mM := mW1 M6 14 5 (nI 0); let M8 : mM := mW1 M7 14 6 (nI 0); let M9 : mM := mW1 M8 14 7 (-1); ∃ x10 : Nat × Int32, pre_X2_dealOut x10 [.inr (some 16), .inl y] M9 ∧ ∀ M11 : mM, post_X2_dealOut x10 [.inr (some 16), .inl y] M9 M11 → (P none M11)) :
    mRun (mSx g) (f_X5_beginDeal g) P (0, [some (.inr (some 13)), some (.inl y)], [], M) := mRun.vc (m_X5_beginDeal g) [] 13 h

theorem bd_run_13 (g : mG) (P : mP) (M : mM) (T : aT) (y : Int32) (hR : RpT 13 M T) (hP : ∀ M', post_X5_beginDeal (13, T, y) [] M M' → P none M') :
    mRun (mSx g) (f_X5_beginDeal g) P (0, [some (.inr (some 13)), some (.inl y)], [], M) := by
  obtain ⟨⟨ph, de, ra, ru⟩, B, Pl, S⟩ := T
  obtain ⟨⟨-, r4, r5, r6⟩, -, -, hS⟩ := hR
  dsimp only at r4 r5 r6 hS
  refine v_bd_0_13 g M P _ ?_
  intro M1 M2 M3 M4 M5 M6 M7 M8 M9
  have f : ∀ c, c ≠ 14 → c ≠ 15 → c ≠ 13 → M9 c = M c := fun c h1 h2 h3 => by
    show (mW1 (mW1 (mW1 (mW1 (mW1 (mW1 (mW1 (mUp (mW1 M 13 3 (nI 1)) 15 _) 14 1 _) 14 2 _) 14 3 _) 14 4 _) 14 5 _) 14 6 _) 14 7 _) c = _
    rw [mW1_c h1, mW1_c h1, mW1_c h1, mW1_c h1, mW1_c h1, mW1_c h1, mW1_c h1, mUp_ne h2, mW1_c h3]
  have f13 : M9 13 = mW1 M 13 3 (nI 1) 13 := by
    show (mW1 (mW1 (mW1 (mW1 (mW1 (mW1 (mW1 (mUp (mW1 M 13 3 (nI 1)) 15 _) 14 1 _) 14 2 _) 14 3 _) 14 4 _) 14 5 _) 14 6 _) 14 7 _) 13 = _
    rw [mW1_c (by decide), mW1_c (by decide), mW1_c (by decide), mW1_c (by decide), mW1_c (by decide), mW1_c (by decide), mW1_c (by decide), mUp_ne (by decide)]
  have f15 : M9 15 = aFill (M 15) 10 (-1) := by
    show (mW1 (mW1 (mW1 (mW1 (mW1 (mW1 (mW1 (mUp (mW1 M 13 3 (nI 1)) 15 _) 14 1 _) 14 2 _) 14 3 _) 14 4 _) 14 5 _) 14 6 _) 14 7 _) 15 = _
    rw [mW1_c (by decide), mW1_c (by decide), mW1_c (by decide), mW1_c (by decide), mW1_c (by decide), mW1_c (by decide), mW1_c (by decide), mUp_at]
  have b1 : M9 14 1 = M 13 4 := by
    show (mW1 (mW1 (mW1 (mW1 (mW1 (mW1 (mW1 (mUp (mW1 M 13 3 (nI 1)) 15 _) 14 1 _) 14 2 _) 14 3 _) 14 4 _) 14 5 _) 14 6 _) 14 7 _) 14 1 = _
    rw [mW1_k (by decide), mW1_k (by decide), mW1_k (by decide), mW1_k (by decide), mW1_k (by decide), mW1_k (by decide), mW1_s]
  have b2 : M9 14 2 = -1 := by
    show (mW1 (mW1 (mW1 (mW1 (mW1 (mW1 (mW1 (mUp (mW1 M 13 3 (nI 1)) 15 _) 14 1 _) 14 2 _) 14 3 _) 14 4 _) 14 5 _) 14 6 _) 14 7 _) 14 2 = _
    rw [mW1_k (by decide), mW1_k (by decide), mW1_k (by decide), mW1_k (by decide), mW1_k (by decide), mW1_s]
  have b3 : M9 14 3 = -1 := by
    show (mW1 (mW1 (mW1 (mW1 (mW1 (mW1 (mW1 (mUp (mW1 M 13 3 (nI 1)) 15 _) 14 1 _) 14 2 _) 14 3 _) 14 4 _) 14 5 _) 14 6 _) 14 7 _) 14 3 = _
    rw [mW1_k (by decide), mW1_k (by decide), mW1_k (by decide), mW1_k (by decide), mW1_s]
  have b4 : M9 14 4 = -1 := by
    show (mW1 (mW1 (mW1 (mW1 (mW1 (mW1 (mW1 (mUp (mW1 M 13 3 (nI 1)) 15 _) 14 1 _) 14 2 _) 14 3 _) 14 4 _) 14 5 _) 14 6 _) 14 7 _) 14 4 = _
    rw [mW1_k (by decide), mW1_k (by decide), mW1_k (by decide), mW1_s]
  have b5 : M9 14 5 = nI 0 := by
    show (mW1 (mW1 (mW1 (mW1 (mW1 (mW1 (mW1 (mUp (mW1 M 13 3 (nI 1)) 15 _) 14 1 _) 14 2 _) 14 3 _) 14 4 _) 14 5 _) 14 6 _) 14 7 _) 14 5 = _
    rw [mW1_k (by decide), mW1_k (by decide), mW1_s]
  have b6 : M9 14 6 = nI 0 := by
    show (mW1 (mW1 (mW1 (mW1 (mW1 (mW1 (mW1 (mUp (mW1 M 13 3 (nI 1)) 15 _) 14 1 _) 14 2 _) 14 3 _) 14 4 _) 14 5 _) 14 6 _) 14 7 _) 14 6 = _
    rw [mW1_k (by decide), mW1_s]
  have b7 : M9 14 7 = -1 := by
    show (mW1 (mW1 (mW1 (mW1 (mW1 (mW1 (mW1 (mUp (mW1 M 13 3 (nI 1)) 15 _) 14 1 _) 14 2 _) 14 3 _) 14 4 _) 14 5 _) 14 6 _) 14 7 _) 14 7 = _
    rw [mW1_s]
  refine ⟨(16, y), ⟨rfl, rfl⟩, fun M11 k => hP M11 ?_⟩
  obtain ⟨kR, kF⟩ := k
  dsimp only at kR kF
  refine ⟨⟨⟨?_, ?_, ?_, ?_⟩, ⟨?_, ?_, ?_, ?_, ?_, ?_, ?_, fun j hj => ?_⟩, kR, ?_⟩, fun c hc => (kF c (by dsimp only at hc; omega)).trans (f c (by dsimp only at hc; omega) (by dsimp only at hc; omega) (by dsimp only at hc; omega))⟩
  · show M11 13 3 = nI 1
    rw [kF 13 (by decide), f13, mW1_s]
  · show M11 13 4 = nI de
    rw [kF 13 (by decide), f13, mW1_k (by decide)]
    exact r4
  · show M11 13 5 = nI ra
    rw [kF 13 (by decide), f13, mW1_k (by decide)]
    exact r5
  · show M11 13 6 = nI ru
    rw [kF 13 (by decide), f13, mW1_k (by decide)]
    exact r6
  · show M11 14 1 = nI de
    rw [kF 14 (by decide), b1]
    exact r4
  · show M11 14 5 = nI 0
    rw [kF 14 (by decide), b5]
  · show M11 14 6 = nI 0
    rw [kF 14 (by decide), b6]
  · show M11 14 2 = -1
    rw [kF 14 (by decide), b2]
  · show M11 14 3 = -1
    rw [kF 14 (by decide), b3]
  · show M11 14 4 = -1
    rw [kF 14 (by decide), b4]
  · show M11 14 7 = -1
    rw [kF 14 (by decide), b7]
  · show M11 15 j = -1
    rw [kF 15 (by decide), f15]
    exact if_pos hj
  · obtain ⟨h1, h2, h3⟩ := hS
    have e1 : M11 24 = M 24 := (kF 24 (by decide)).trans (f 24 (by decide) (by decide) (by decide))
    have e2 : M11 25 = M 25 := (kF 25 (by decide)).trans (f 25 (by decide) (by decide) (by decide))
    refine ⟨?_, fun q hq => ?_, fun j hj => ?_⟩
    · show M11 24 1 = _
      rw [e1]
      exact h1
    · show M11 24 2 = _ ∧ M11 24 3 = _ ∧ M11 24 4 = _ ∧ M11 24 5 = _
      rw [e1]
      exact h2 q hq
    · show M11 25 j = _
      rw [e2]
      exact h3 j hj
theorem v_bd_0_26 (g : mG) (M : mM) (P : mP) (y : Int32)
    (h : let M1 : mM := mW1 M 26 3 (nI 1); let M2 : mM := mUp M1 28 (aFill (M 28) 10 (-1)); let M3 : mM := mW1 M2 27 1 (M 26 4); let M4 : mM := mW1 M3 27 2 (-1); let M5 : mM := mW1 M4 27 3 (-1); let M6 : mM := mW1 M5 27 4 (-1); let M7 : mM := mW1 M6 27 5 (nI 0); let M8 : mM := mW1 M7 27 6 (nI 0); let M9 : mM := mW1 M8 27 7 (-1); ∃ x10 : Nat × Int32, pre_X2_dealOut x10 [.inr (some 29), .inl y] M9 ∧ ∀ M11 : mM, post_X2_dealOut x10 [.inr (some 29), .inl y] M9 M11 → (P none M11)) :
    mRun (mSx g) (f_X5_beginDeal g) P (0, [some (.inr (some 26)), some (.inl y)], [], M) := mRun.vc (m_X5_beginDeal g) [] 13 h

theorem bd_run_26 (g : mG) (P : mP) (M : mM) (T : aT) (y : Int32) (hR : RpT 26 M T) (hP : ∀ M', post_X5_beginDeal (26, T, y) [] M M' → P none M') :
    mRun (mSx g) (f_X5_beginDeal g) P (0, [some (.inr (some 26)), some (.inl y)], [], M) := by
  obtain ⟨⟨ph, de, ra, ru⟩, B, Pl, S⟩ := T
  obtain ⟨⟨-, r4, r5, r6⟩, -, -, hS⟩ := hR
  dsimp only at r4 r5 r6 hS
  refine v_bd_0_26 g M P _ ?_
  intro M1 M2 M3 M4 M5 M6 M7 M8 M9
  have f : ∀ c, c ≠ 27 → c ≠ 28 → c ≠ 26 → M9 c = M c := fun c h1 h2 h3 => by
    show (mW1 (mW1 (mW1 (mW1 (mW1 (mW1 (mW1 (mUp (mW1 M 26 3 (nI 1)) 28 _) 27 1 _) 27 2 _) 27 3 _) 27 4 _) 27 5 _) 27 6 _) 27 7 _) c = _
    rw [mW1_c h1, mW1_c h1, mW1_c h1, mW1_c h1, mW1_c h1, mW1_c h1, mW1_c h1, mUp_ne h2, mW1_c h3]
  have f13 : M9 26 = mW1 M 26 3 (nI 1) 26 := by
    show (mW1 (mW1 (mW1 (mW1 (mW1 (mW1 (mW1 (mUp (mW1 M 26 3 (nI 1)) 28 _) 27 1 _) 27 2 _) 27 3 _) 27 4 _) 27 5 _) 27 6 _) 27 7 _) 26 = _
    rw [mW1_c (by decide), mW1_c (by decide), mW1_c (by decide), mW1_c (by decide), mW1_c (by decide), mW1_c (by decide), mW1_c (by decide), mUp_ne (by decide)]
  have f15 : M9 28 = aFill (M 28) 10 (-1) := by
    show (mW1 (mW1 (mW1 (mW1 (mW1 (mW1 (mW1 (mUp (mW1 M 26 3 (nI 1)) 28 _) 27 1 _) 27 2 _) 27 3 _) 27 4 _) 27 5 _) 27 6 _) 27 7 _) 28 = _
    rw [mW1_c (by decide), mW1_c (by decide), mW1_c (by decide), mW1_c (by decide), mW1_c (by decide), mW1_c (by decide), mW1_c (by decide), mUp_at]
  have b1 : M9 27 1 = M 26 4 := by
    show (mW1 (mW1 (mW1 (mW1 (mW1 (mW1 (mW1 (mUp (mW1 M 26 3 (nI 1)) 28 _) 27 1 _) 27 2 _) 27 3 _) 27 4 _) 27 5 _) 27 6 _) 27 7 _) 27 1 = _
    rw [mW1_k (by decide), mW1_k (by decide), mW1_k (by decide), mW1_k (by decide), mW1_k (by decide), mW1_k (by decide), mW1_s]
  have b2 : M9 27 2 = -1 := by
    show (mW1 (mW1 (mW1 (mW1 (mW1 (mW1 (mW1 (mUp (mW1 M 26 3 (nI 1)) 28 _) 27 1 _) 27 2 _) 27 3 _) 27 4 _) 27 5 _) 27 6 _) 27 7 _) 27 2 = _
    rw [mW1_k (by decide), mW1_k (by decide), mW1_k (by decide), mW1_k (by decide), mW1_k (by decide), mW1_s]
  have b3 : M9 27 3 = -1 := by
    show (mW1 (mW1 (mW1 (mW1 (mW1 (mW1 (mW1 (mUp (mW1 M 26 3 (nI 1)) 28 _) 27 1 _) 27 2 _) 27 3 _) 27 4 _) 27 5 _) 27 6 _) 27 7 _) 27 3 = _
    rw [mW1_k (by decide), mW1_k (by decide), mW1_k (by decide), mW1_k (by decide), mW1_s]
  have b4 : M9 27 4 = -1 := by
    show (mW1 (mW1 (mW1 (mW1 (mW1 (mW1 (mW1 (mUp (mW1 M 26 3 (nI 1)) 28 _) 27 1 _) 27 2 _) 27 3 _) 27 4 _) 27 5 _) 27 6 _) 27 7 _) 27 4 = _
    rw [mW1_k (by decide), mW1_k (by decide), mW1_k (by decide), mW1_s]
  have b5 : M9 27 5 = nI 0 := by
    show (mW1 (mW1 (mW1 (mW1 (mW1 (mW1 (mW1 (mUp (mW1 M 26 3 (nI 1)) 28 _) 27 1 _) 27 2 _) 27 3 _) 27 4 _) 27 5 _) 27 6 _) 27 7 _) 27 5 = _
    rw [mW1_k (by decide), mW1_k (by decide), mW1_s]
  have b6 : M9 27 6 = nI 0 := by
    show (mW1 (mW1 (mW1 (mW1 (mW1 (mW1 (mW1 (mUp (mW1 M 26 3 (nI 1)) 28 _) 27 1 _) 27 2 _) 27 3 _) 27 4 _) 27 5 _) 27 6 _) 27 7 _) 27 6 = _
    rw [mW1_k (by decide), mW1_s]
  have b7 : M9 27 7 = -1 := by
    show (mW1 (mW1 (mW1 (mW1 (mW1 (mW1 (mW1 (mUp (mW1 M 26 3 (nI 1)) 28 _) 27 1 _) 27 2 _) 27 3 _) 27 4 _) 27 5 _) 27 6 _) 27 7 _) 27 7 = _
    rw [mW1_s]
  refine ⟨(29, y), ⟨rfl, rfl⟩, fun M11 k => hP M11 ?_⟩
  obtain ⟨kR, kF⟩ := k
  dsimp only at kR kF
  refine ⟨⟨⟨?_, ?_, ?_, ?_⟩, ⟨?_, ?_, ?_, ?_, ?_, ?_, ?_, fun j hj => ?_⟩, kR, ?_⟩, fun c hc => (kF c (by dsimp only at hc; omega)).trans (f c (by dsimp only at hc; omega) (by dsimp only at hc; omega) (by dsimp only at hc; omega))⟩
  · show M11 26 3 = nI 1
    rw [kF 26 (by decide), f13, mW1_s]
  · show M11 26 4 = nI de
    rw [kF 26 (by decide), f13, mW1_k (by decide)]
    exact r4
  · show M11 26 5 = nI ra
    rw [kF 26 (by decide), f13, mW1_k (by decide)]
    exact r5
  · show M11 26 6 = nI ru
    rw [kF 26 (by decide), f13, mW1_k (by decide)]
    exact r6
  · show M11 27 1 = nI de
    rw [kF 27 (by decide), b1]
    exact r4
  · show M11 27 5 = nI 0
    rw [kF 27 (by decide), b5]
  · show M11 27 6 = nI 0
    rw [kF 27 (by decide), b6]
  · show M11 27 2 = -1
    rw [kF 27 (by decide), b2]
  · show M11 27 3 = -1
    rw [kF 27 (by decide), b3]
  · show M11 27 4 = -1
    rw [kF 27 (by decide), b4]
  · show M11 27 7 = -1
    rw [kF 27 (by decide), b7]
  · show M11 28 j = -1
    rw [kF 28 (by decide), f15]
    exact if_pos hj
  · obtain ⟨h1, h2, h3⟩ := hS
    have e1 : M11 37 = M 37 := (kF 37 (by decide)).trans (f 37 (by decide) (by decide) (by decide))
    have e2 : M11 38 = M 38 := (kF 38 (by decide)).trans (f 38 (by decide) (by decide) (by decide))
    refine ⟨?_, fun q hq => ?_, fun j hj => ?_⟩
    · show M11 37 1 = _
      rw [e1]
      exact h1
    · show M11 37 2 = _ ∧ M11 37 3 = _ ∧ M11 37 4 = _ ∧ M11 37 5 = _
      rw [e1]
      exact h2 q hq
    · show M11 38 j = _
      rw [e2]
      exact h3 j hj
theorem run_X5_beginDeal : mRunOf 2 t_X5_beginDeal f_X5_beginDeal := fun g as M P hT => by
  obtain ⟨⟨t, T, y⟩, ⟨h1, rfl, h3⟩, hP⟩ := hT
  refine ⟨Nat.le_of_ble_eq_true rfl, ?_⟩
  dsimp only at h1 h3
  rcases h1 with rfl | rfl
  · exact bd_run_13 g P M T y h3 (fun M' h => hP M' h)
  · exact bd_run_26 g P M T y h3 (fun M' h => hP M' h)
theorem ok_X5_beginDeal : mOK yX5_beginDeal cX5_beginDeal 2 (none) 4 t_X5_beginDeal := mOK.of f_X5_beginDeal (by decide) (fun _ => rfl) (fun g => mCodeOK kk_X5_beginDeal) (fun g => mFldL fk_RX5 rfl) (fun g idx v h => by cases h) (fun g idx v h => by cases h) (mCalL (l := l_X5_beginDeal) (List.forall_mem_cons.mpr ⟨mSite.V (idx := 48) ok_X1_begin (by decide) (by decide) rv_X1_begin wc_X1_begin wk_RX5_48 wi_X1_begin wl_X1_begin wn_RX1 wd_X1_begin, List.forall_mem_cons.mpr ⟨mSite.V (idx := 91) ok_X2_dealOut (by decide) (by decide) rv_X2_dealOut wc_X2_dealOut wk_RX5_91 wi_X2_dealOut wl_X2_dealOut wn_RX2 wd_X2_dealOut, fun _ h => absurd h List.not_mem_nil⟩⟩) (fun _ => rfl)) run_X5_beginDeal

