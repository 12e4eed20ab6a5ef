/-! ===== CLASS Table: cleared ===== -/
def pre_X5_clear (q : Nat × Nat) (as : List mV) (M : mM) : Prop := (q.1 = 13 ∨ q.1 = 26) ∧ as = [.inr (some q.1)]
def post_X5_clear (q : Nat × Nat) (_ : List mV) (M : mM) (M' : mM) : Prop := RpT q.1 M' tb0 ∧ FrT q.1 M M'
abbrev t_X5_clear : mG → mT := mRv pre_X5_clear post_X5_clear
theorem mo_X5_clear : mMn t_X5_clear := mRv_mono
theorem rv_X5_clear : mHasR yX5_clear 0 t_X5_clear := by
  intro g as M P hT hl
  obtain ⟨q, ⟨h1, h2⟩, -⟩ := hT
  refine ⟨_, _, h2, is_X5 g _ ?_⟩
  rcases h1 with h1 | h1 <;> rw [h1] <;> rfl
def k_X5_clear : List (Nat × mI) := [(0, .aload_n 0, 1, 0, 0, []),
  (1, .iconst 0, 1, 0, nI 0, []),
  (2, .putfield 35, 3, 0, 0, []),
  (5, .aload_n 0, 1, 0, 0, []),
  (6, .iconst 0, 1, 0, nI 0, []),
  (7, .putfield 39, 3, 0, 0, []),
  (10, .aload_n 0, 1, 0, 0, []),
  (11, .iconst 0, 1, 0, nI 0, []),
  (12, .putfield 42, 3, 0, 0, []),
  (15, .aload_n 0, 1, 0, 0, []),
  (16, .iconst 0, 1, 0, nI 0, []),
  (17, .putfield 45, 3, 0, 0, []),
  (20, .aload_n 0, 1, 0, 0, []),
  (21, .getfield 12, 3, 0, 0, []),
  (24, .iconst 0, 1, 0, nI 0, []),
  (25, .invokevirtual 48, 3, 0, 0, []),
  (28, .aload_n 0, 1, 0, 0, []),
  (29, .getfield 21, 3, 0, 0, []),
  (32, .invokevirtual 52, 3, 0, 0, []),
  (35, .aload_n 0, 1, 0, 0, []),
  (36, .getfield 28, 3, 0, 0, []),
  (39, .invokevirtual 53, 3, 0, 0, []),
  (42, .return_, 1, 0, 0, [])]
theorem kk_X5_clear : (k_X5_clear.all fun e => mChk cX5_clear e.1 e.2) = true := by decide +kernel
def l_X5_clear : List (Nat × Nat × (mG → mT)) := [(3 * 48, 1 + 1, t_X1_begin), (3 * 52, 0 + 1, t_X2_clear), (3 * 53, 0 + 1, t_X3_clear)]
def f_X5_clear (g : mG) : mF := (mLk k_X5_clear, mLk fl_RX5, mLk (l_X5_clear.map fun e => (e.1, e.2.1, e.2.2 g)), mLk ([] : List (Nat × mV)), mLk ([] : List (Nat × mV)), none)
theorem m_X5_clear (g : mG) : mMono (f_X5_clear g) := mMonoL (g := g) (l := l_X5_clear) (List.forall_mem_cons.mpr ⟨mo_X1_begin, List.forall_mem_cons.mpr ⟨mo_X2_clear, List.forall_mem_cons.mpr ⟨mo_X3_clear, fun _ h => absurd h List.not_mem_nil⟩⟩⟩) rfl

set_option maxRecDepth 100000 in
theorem v_cr_0_13 (g : mG) (M : mM) (P : mP) 
    (h : let M1 : mM := mW1 M 13 3 (nI 0); let M2 : mM := mW1 M1 13 4 (nI 0); let M3 : mM := mW1 M2 13 5 (nI 0); let M4 : mM := mW1 M3 13 6 (nI 0); let M5 : mM := mUp M4 15 (aFill (M 15) 10 (-1)); let M6 : mM := mW1 M5 14 1 (nI 0); let M7 : mM := mW1 M6 14 2 (-1); let M8 : mM := mW1 M7 14 3 (-1); let M9 : mM := mW1 M8 14 4 (-1); let M10 : mM := mW1 M9 14 5 (nI 0); let M11 : mM := mW1 M10 14 6 (nI 0); let M12 : mM := mW1 M11 14 7 (-1); let M13 : mM := mUp M12 18 (aFill (M 18) 4 (nI 0)); let M14 : mM := mUp M13 19 (aFill (M 19) 4 (nI 0)); let M15 : mM := mUp M14 23 (aFill (M 23) 2 (nI 0)); let M16 : mM := mW1 M15 16 7 (nI 0); let M17 : mM := mW1 M16 16 8 (nI 0); let M18 : mM := mW1 M17 16 9 (nI 4); let M19 : mM := mW1 M18 16 10 (nI 0); let M20 : mM := mW1 M19 16 11 (nI 0); let M21 : mM := mUp M20 25 (aFill (M 25) 12 (nI 0)); ((nI 0) = 0 ∨ (nI 0) = 1) ∧ (let M22 : mM := mW1 M21 24 1 (nI 0); P none M22)) :
    mRun (mSx g) (f_X5_clear g) P (0, [some (.inr (some 13))], [], M) := mRun.vc (m_X5_clear g) [] 23 h

theorem cr_run_13 (g : mG) (P : mP) (M : mM) (hP : ∀ M', RpT 13 M' tb0 ∧ FrT 13 M M' → P none M') :
    mRun (mSx g) (f_X5_clear g) P (0, [some (.inr (some 13))], [], M) := by
  refine v_cr_0_13 g M P ?_
  intro M1 M2 M3 M4 M5 M6 M7 M8 M9 M10 M11 M12 M13 M14 M15 M16 M17 M18 M19 M20 M21
  refine ⟨Or.inl rfl, ?_⟩
  intro M22
  have c0_3 : M22 13 3 = nI 0 := by
    show (mW1 (mUp (mW1 (mW1 (mW1 (mW1 (mW1 (mUp (mUp (mUp (mW1 (mW1 (mW1 (mW1 (mW1 (mW1 (mW1 (mUp (mW1 (mW1 (mW1 (mW1 M 13 3 (nI 0)) 13 4 (nI 0)) 13 5 (nI 0)) 13 6 (nI 0)) 15 (aFill (M 15) 10 (-1))) 14 1 (nI 0)) 14 2 (-1)) 14 3 (-1)) 14 4 (-1)) 14 5 (nI 0)) 14 6 (nI 0)) 14 7 (-1)) 18 (aFill (M 18) 4 (nI 0))) 19 (aFill (M 19) 4 (nI 0))) 23 (aFill (M 23) 2 (nI 0))) 16 7 (nI 0)) 16 8 (nI 0)) 16 9 (nI 4)) 16 10 (nI 0)) 16 11 (nI 0)) 25 (aFill (M 25) 12 (nI 0))) 24 1 (nI 0)) 13 3 = _
    simp (disch := decide) only [mW1_k, mW1_s, mW1_c, mUp_at, mUp_ne]
  have c0_4 : M22 13 4 = nI 0 := by
    show (mW1 (mUp (mW1 (mW1 (mW1 (mW1 (mW1 (mUp (mUp (mUp (mW1 (mW1 (mW1 (mW1 (mW1 (mW1 (mW1 (mUp (mW1 (mW1 (mW1 (mW1 M 13 3 (nI 0)) 13 4 (nI 0)) 13 5 (nI 0)) 13 6 (nI 0)) 15 (aFill (M 15) 10 (-1))) 14 1 (nI 0)) 14 2 (-1)) 14 3 (-1)) 14 4 (-1)) 14 5 (nI 0)) 14 6 (nI 0)) 14 7 (-1)) 18 (aFill (M 18) 4 (nI 0))) 19 (aFill (M 19) 4 (nI 0))) 23 (aFill (M 23) 2 (nI 0))) 16 7 (nI 0)) 16 8 (nI 0)) 16 9 (nI 4)) 16 10 (nI 0)) 16 11 (nI 0)) 25 (aFill (M 25) 12 (nI 0))) 24 1 (nI 0)) 13 4 = _
    simp (disch := decide) only [mW1_k, mW1_s, mW1_c, mUp_at, mUp_ne]
  have c0_5 : M22 13 5 = nI 0 := by
    show (mW1 (mUp (mW1 (mW1 (mW1 (mW1 (mW1 (mUp (mUp (mUp (mW1 (mW1 (mW1 (mW1 (mW1 (mW1 (mW1 (mUp (mW1 (mW1 (mW1 (mW1 M 13 3 (nI 0)) 13 4 (nI 0)) 13 5 (nI 0)) 13 6 (nI 0)) 15 (aFill (M 15) 10 (-1))) 14 1 (nI 0)) 14 2 (-1)) 14 3 (-1)) 14 4 (-1)) 14 5 (nI 0)) 14 6 (nI 0)) 14 7 (-1)) 18 (aFill (M 18) 4 (nI 0))) 19 (aFill (M 19) 4 (nI 0))) 23 (aFill (M 23) 2 (nI 0))) 16 7 (nI 0)) 16 8 (nI 0)) 16 9 (nI 4)) 16 10 (nI 0)) 16 11 (nI 0)) 25 (aFill (M 25) 12 (nI 0))) 24 1 (nI 0)) 13 5 = _
    simp (disch := decide) only [mW1_k, mW1_s, mW1_c, mUp_at, mUp_ne]
  have c0_6 : M22 13 6 = nI 0 := by
    show (mW1 (mUp (mW1 (mW1 (mW1 (mW1 (mW1 (mUp (mUp (mUp (mW1 (mW1 (mW1 (mW1 (mW1 (mW1 (mW1 (mUp (mW1 (mW1 (mW1 (mW1 M 13 3 (nI 0)) 13 4 (nI 0)) 13 5 (nI 0)) 13 6 (nI 0)) 15 (aFill (M 15) 10 (-1))) 14 1 (nI 0)) 14 2 (-1)) 14 3 (-1)) 14 4 (-1)) 14 5 (nI 0)) 14 6 (nI 0)) 14 7 (-1)) 18 (aFill (M 18) 4 (nI 0))) 19 (aFill (M 19) 4 (nI 0))) 23 (aFill (M 23) 2 (nI 0))) 16 7 (nI 0)) 16 8 (nI 0)) 16 9 (nI 4)) 16 10 (nI 0)) 16 11 (nI 0)) 25 (aFill (M 25) 12 (nI 0))) 24 1 (nI 0)) 13 6 = _
    simp (disch := decide) only [mW1_k, mW1_s, mW1_c, mUp_at, mUp_ne]
  have c1_1 : M22 14 1 = nI 0 := by
    show (mW1 (mUp (mW1 (mW1 (mW1 (mW1 (mW1 (mUp (mUp (mUp (mW1 (mW1 (mW1 (mW1 (mW1 (mW1 (mW1 (mUp (mW1 (mW1 (mW1 (mW1 M 13 3 (nI 0)) 13 4 (nI 0)) 13 5 (nI 0)) 13 6 (nI 0)) 15 (aFill (M 15) 10 (-1))) 14 1 (nI 0)) 14 2 (-1)) 14 3 (-1)) 14 4 (-1)) 14 5 (nI 0)) 14 6 (nI 0)) 14 7 (-1)) 18 (aFill (M 18) 4 (nI 0))) 19 (aFill (M 19) 4 (nI 0))) 23 (aFill (M 23) 2 (nI 0))) 16 7 (nI 0)) 16 8 (nI 0)) 16 9 (nI 4)) 16 10 (nI 0)) 16 11 (nI 0)) 25 (aFill (M 25) 12 (nI 0))) 24 1 (nI 0)) 14 1 = _
    simp (disch := decide) only [mW1_k, mW1_s, mW1_c, mUp_at, mUp_ne]
  have c1_2 : M22 14 2 = -1 := by
    show (mW1 (mUp (mW1 (mW1 (mW1 (mW1 (mW1 (mUp (mUp (mUp (mW1 (mW1 (mW1 (mW1 (mW1 (mW1 (mW1 (mUp (mW1 (mW1 (mW1 (mW1 M 13 3 (nI 0)) 13 4 (nI 0)) 13 5 (nI 0)) 13 6 (nI 0)) 15 (aFill (M 15) 10 (-1))) 14 1 (nI 0)) 14 2 (-1)) 14 3 (-1)) 14 4 (-1)) 14 5 (nI 0)) 14 6 (nI 0)) 14 7 (-1)) 18 (aFill (M 18) 4 (nI 0))) 19 (aFill (M 19) 4 (nI 0))) 23 (aFill (M 23) 2 (nI 0))) 16 7 (nI 0)) 16 8 (nI 0)) 16 9 (nI 4)) 16 10 (nI 0)) 16 11 (nI 0)) 25 (aFill (M 25) 12 (nI 0))) 24 1 (nI 0)) 14 2 = _
    simp (disch := decide) only [mW1_k, mW1_s, mW1_c, mUp_at, mUp_ne]
  have c1_3 : M22 14 3 = -1 := by
    show (mW1 (mUp (mW1 (mW1 (mW1 (mW1 (mW1 (mUp (mUp (mUp (mW1 (mW1 (mW1 (mW1 (mW1 (mW1 (mW1 (mUp (mW1 (mW1 (mW1 (mW1 M 13 3 (nI 0)) 13 4 (nI 0)) 13 5 (nI 0)) 13 6 (nI 0)) 15 (aFill (M 15) 10 (-1))) 14 1 (nI 0)) 14 2 (-1)) 14 3 (-1)) 14 4 (-1)) 14 5 (nI 0)) 14 6 (nI 0)) 14 7 (-1)) 18 (aFill (M 18) 4 (nI 0))) 19 (aFill (M 19) 4 (nI 0))) 23 (aFill (M 23) 2 (nI 0))) 16 7 (nI 0)) 16 8 (nI 0)) 16 9 (nI 4)) 16 10 (nI 0)) 16 11 (nI 0)) 25 (aFill (M 25) 12 (nI 0))) 24 1 (nI 0)) 14 3 = _
    simp (disch := decide) only [mW1_k, mW1_s, mW1_c, mUp_at, mUp_ne]
  have c1_4 : M22 14 4 = -1 := by
    show (mW1 (mUp (mW1 (mW1 (mW1 (mW1 (mW1 (mUp (mUp (mUp (mW1 (mW1 (mW1 (mW1 (mW1 (mW1 (mW1 (mUp (mW1 (mW1 (mW1 (mW1 M 13 3 (nI 0)) 13 4 (nI 0)) 13 5 (nI 0)) 13 6 (nI 0)) 15 (aFill (M 15) 10 (-1))) 14 1 (nI 0)) 14 2 (-1)) 14 3 (-1)) 14 4 (-1)) 14 5 (nI 0)) 14 6 (nI 0)) 14 7 (-1)) 18 (aFill (M 18) 4 (nI 0))) 19 (aFill (M 19) 4 (nI 0))) 23 (aFill (M 23) 2 (nI 0))) 16 7 (nI 0)) 16 8 (nI 0)) 16 9 (nI 4)) 16 10 (nI 0)) 16 11 (nI 0)) 25 (aFill (M 25) 12 (nI 0))) 24 1 (nI 0)) 14 4 = _
    simp (disch := decide) only [mW1_k, mW1_s, mW1_c, mUp_at, mUp_ne]
  have c1_5 : M22 14 5 = nI 0 := by
    show (mW1 (mUp (mW1 (mW1 (mW1 (mW1 (mW1 (mUp (mUp (mUp (mW1 (mW1 (mW1 (mW1 (mW1 (mW1 (mW1 (mUp (mW1 (mW1 (mW1 (mW1 M 13 3 (nI 0)) 13 4 (nI 0)) 13 5 (nI 0)) 13 6 (nI 0)) 15 (aFill (M 15) 10 (-1))) 14 1 (nI 0)) 14 2 (-1)) 14 3 (-1)) 14 4 (-1)) 14 5 (nI 0)) 14 6 (nI 0)) 14 7 (-1)) 18 (aFill (M 18) 4 (nI 0))) 19 (aFill (M 19) 4 (nI 0))) 23 (aFill (M 23) 2 (nI 0))) 16 7 (nI 0)) 16 8 (nI 0)) 16 9 (nI 4)) 16 10 (nI 0)) 16 11 (nI 0)) 25 (aFill (M 25) 12 (nI 0))) 24 1 (nI 0)) 14 5 = _
    simp (disch := decide) only [mW1_k, mW1_s, mW1_c, mUp_at, mUp_ne]
  have c1_6 : M22 14 6 = nI 0 := by
    show (mW1 (mUp (mW1 (mW1 (mW1 (mW1 (mW1 (mUp (mUp (mUp (mW1 (mW1 (mW1 (mW1 (mW1 (mW1 (mW1 (mUp (mW1 (mW1 (mW1 (mW1 M 13 3 (nI 0)) 13 4 (nI 0)) 13 5 (nI 0)) 13 6 (nI 0)) 15 (aFill (M 15) 10 (-1))) 14 1 (nI 0)) 14 2 (-1)) 14 3 (-1)) 14 4 (-1)) 14 5 (nI 0)) 14 6 (nI 0)) 14 7 (-1)) 18 (aFill (M 18) 4 (nI 0))) 19 (aFill (M 19) 4 (nI 0))) 23 (aFill (M 23) 2 (nI 0))) 16 7 (nI 0)) 16 8 (nI 0)) 16 9 (nI 4)) 16 10 (nI 0)) 16 11 (nI 0)) 25 (aFill (M 25) 12 (nI 0))) 24 1 (nI 0)) 14 6 = _
    simp (disch := decide) only [mW1_k, mW1_s, mW1_c, mUp_at, mUp_ne]
  have c1_7 : M22 14 7 = -1 := by
    show (mW1 (mUp (mW1 (mW1 (mW1 (mW1 (mW1 (mUp (mUp (mUp (mW1 (mW1 (mW1 (mW1 (mW1 (mW1 (mW1 (mUp (mW1 (mW1 (mW1 (mW1 M 13 3 (nI 0)) 13 4 (nI 0)) 13 5 (nI 0)) 13 6 (nI 0)) 15 (aFill (M 15) 10 (-1))) 14 1 (nI 0)) 14 2 (-1)) 14 3 (-1)) 14 4 (-1)) 14 5 (nI 0)) 14 6 (nI 0)) 14 7 (-1)) 18 (aFill (M 18) 4 (nI 0))) 19 (aFill (M 19) 4 (nI 0))) 23 (aFill (M 23) 2 (nI 0))) 16 7 (nI 0)) 16 8 (nI 0)) 16 9 (nI 4)) 16 10 (nI 0)) 16 11 (nI 0)) 25 (aFill (M 25) 12 (nI 0))) 24 1 (nI 0)) 14 7 = _
    simp (disch := decide) only [mW1_k, mW1_s, mW1_c, mUp_at, mUp_ne]
  have c3_7 : M22 16 7 = nI 0 := by
    show (mW1 (mUp (mW1 (mW1 (mW1 (mW1 (mW1 (mUp (mUp (mUp (mW1 (mW1 (mW1 (mW1 (mW1 (mW1 (mW1 (mUp (mW1 (mW1 (mW1 (mW1 M 13 3 (nI 0)) 13 4 (nI 0)) 13 5 (nI 0)) 13 6 (nI 0)) 15 (aFill (M 15) 10 (-1))) 14 1 (nI 0)) 14 2 (-1)) 14 3 (-1)) 14 4 (-1)) 14 5 (nI 0)) 14 6 (nI 0)) 14 7 (-1)) 18 (aFill (M 18) 4 (nI 0))) 19 (aFill (M 19) 4 (nI 0))) 23 (aFill (M 23) 2 (nI 0))) 16 7 (nI 0)) 16 8 (nI 0)) 16 9 (nI 4)) 16 10 (nI 0)) 16 11 (nI 0)) 25 (aFill (M 25) 12 (nI 0))) 24 1 (nI 0)) 16 7 = _
    simp (disch := decide) only [mW1_k, mW1_s, mW1_c, mUp_at, mUp_ne]
  have c3_8 : M22 16 8 = nI 0 := by
    show (mW1 (mUp (mW1 (mW1 (mW1 (mW1 (mW1 (mUp (mUp (mUp (mW1 (mW1 (mW1 (mW1 (mW1 (mW1 (mW1 (mUp (mW1 (mW1 (mW1 (mW1 M 13 3 (nI 0)) 13 4 (nI 0)) 13 5 (nI 0)) 13 6 (nI 0)) 15 (aFill (M 15) 10 (-1))) 14 1 (nI 0)) 14 2 (-1)) 14 3 (-1)) 14 4 (-1)) 14 5 (nI 0)) 14 6 (nI 0)) 14 7 (-1)) 18 (aFill (M 18) 4 (nI 0))) 19 (aFill (M 19) 4 (nI 0))) 23 (aFill (M 23) 2 (nI 0))) 16 7 (nI 0)) 16 8 (nI 0)) 16 9 (nI 4)) 16 10 (nI 0)) 16 11 (nI 0)) 25 (aFill (M 25) 12 (nI 0))) 24 1 (nI 0)) 16 8 = _
    simp (disch := decide) only [mW1_k, mW1_s, mW1_c, mUp_at, mUp_ne]
  have c3_9 : M22 16 9 = nI 4 := by
    show (mW1 (mUp (mW1 (mW1 (mW1 (mW1 (mW1 (mUp (mUp (mUp (mW1 (mW1 (mW1 (mW1 (mW1 (mW1 (mW1 (mUp (mW1 (mW1 (mW1 (mW1 M 13 3 (nI 0)) 13 4 (nI 0)) 13 5 (nI 0)) 13 6 (nI 0)) 15 (aFill (M 15) 10 (-1))) 14 1 (nI 0)) 14 2 (-1)) 14 3 (-1)) 14 4 (-1)) 14 5 (nI 0)) 14 6 (nI 0)) 14 7 (-1)) 18 (aFill (M 18) 4 (nI 0))) 19 (aFill (M 19) 4 (nI 0))) 23 (aFill (M 23) 2 (nI 0))) 16 7 (nI 0)) 16 8 (nI 0)) 16 9 (nI 4)) 16 10 (nI 0)) 16 11 (nI 0)) 25 (aFill (M 25) 12 (nI 0))) 24 1 (nI 0)) 16 9 = _
    simp (disch := decide) only [mW1_k, mW1_s, mW1_c, mUp_at, mUp_ne]
  have c3_10 : M22 16 10 = nI 0 := by
    show (mW1 (mUp (mW1 (mW1 (mW1 (mW1 (mW1 (mUp (mUp (mUp (mW1 (mW1 (mW1 (mW1 (mW1 (mW1 (mW1 (mUp (mW1 (mW1 (mW1 (mW1 M 13 3 (nI 0)) 13 4 (nI 0)) 13 5 (nI 0)) 13 6 (nI 0)) 15 (aFill (M 15) 10 (-1))) 14 1 (nI 0)) 14 2 (-1)) 14 3 (-1)) 14 4 (-1)) 14 5 (nI 0)) 14 6 (nI 0)) 14 7 (-1)) 18 (aFill (M 18) 4 (nI 0))) 19 (aFill (M 19) 4 (nI 0))) 23 (aFill (M 23) 2 (nI 0))) 16 7 (nI 0)) 16 8 (nI 0)) 16 9 (nI 4)) 16 10 (nI 0)) 16 11 (nI 0)) 25 (aFill (M 25) 12 (nI 0))) 24 1 (nI 0)) 16 10 = _
    simp (disch := decide) only [mW1_k, mW1_s, mW1_c, mUp_at, mUp_ne]
  have c3_11 : M22 16 11 = nI 0 := by
    show (mW1 (mUp (mW1 (mW1 (mW1 (mW1 (mW1 (mUp (mUp (mUp (mW1 (mW1 (mW1 (mW1 (mW1 (mW1 (mW1 (mUp (mW1 (mW1 (mW1 (mW1 M 13 3 (nI 0)) 13 4 (nI 0)) 13 5 (nI 0)) 13 6 (nI 0)) 15 (aFill (M 15) 10 (-1))) 14 1 (nI 0)) 14 2 (-1)) 14 3 (-1)) 14 4 (-1)) 14 5 (nI 0)) 14 6 (nI 0)) 14 7 (-1)) 18 (aFill (M 18) 4 (nI 0))) 19 (aFill (M 19) 4 (nI 0))) 23 (aFill (M 23) 2 (nI 0))) 16 7 (nI 0)) 16 8 (nI 0)) 16 9 (nI 4)) 16 10 (nI 0)) 16 11 (nI 0)) 25 (aFill (M 25) 12 (nI 0))) 24 1 (nI 0)) 16 11 = _
    simp (disch := decide) only [mW1_k, mW1_s, mW1_c, mUp_at, mUp_ne]
  have c11_1 : M22 24 1 = nI 0 := by
    show (mW1 (mUp (mW1 (mW1 (mW1 (mW1 (mW1 (mUp (mUp (mUp (mW1 (mW1 (mW1 (mW1 (mW1 (mW1 (mW1 (mUp (mW1 (mW1 (mW1 (mW1 M 13 3 (nI 0)) 13 4 (nI 0)) 13 5 (nI 0)) 13 6 (nI 0)) 15 (aFill (M 15) 10 (-1))) 14 1 (nI 0)) 14 2 (-1)) 14 3 (-1)) 14 4 (-1)) 14 5 (nI 0)) 14 6 (nI 0)) 14 7 (-1)) 18 (aFill (M 18) 4 (nI 0))) 19 (aFill (M 19) 4 (nI 0))) 23 (aFill (M 23) 2 (nI 0))) 16 7 (nI 0)) 16 8 (nI 0)) 16 9 (nI 4)) 16 10 (nI 0)) 16 11 (nI 0)) 25 (aFill (M 25) 12 (nI 0))) 24 1 (nI 0)) 24 1 = _
    simp (disch := decide) only [mW1_k, mW1_s, mW1_c, mUp_at, mUp_ne]
  have a2 : M22 15 = aFill (M 15) 10 (-1) := by
    show (mW1 (mUp (mW1 (mW1 (mW1 (mW1 (mW1 (mUp (mUp (mUp (mW1 (mW1 (mW1 (mW1 (mW1 (mW1 (mW1 (mUp (mW1 (mW1 (mW1 (mW1 M 13 3 (nI 0)) 13 4 (nI 0)) 13 5 (nI 0)) 13 6 (nI 0)) 15 (aFill (M 15) 10 (-1))) 14 1 (nI 0)) 14 2 (-1)) 14 3 (-1)) 14 4 (-1)) 14 5 (nI 0)) 14 6 (nI 0)) 14 7 (-1)) 18 (aFill (M 18) 4 (nI 0))) 19 (aFill (M 19) 4 (nI 0))) 23 (aFill (M 23) 2 (nI 0))) 16 7 (nI 0)) 16 8 (nI 0)) 16 9 (nI 4)) 16 10 (nI 0)) 16 11 (nI 0)) 25 (aFill (M 25) 12 (nI 0))) 24 1 (nI 0)) 15 = _
    simp (disch := decide) only [mW1_k, mW1_s, mW1_c, mUp_at, mUp_ne]
  have a5 : M22 18 = aFill (M 18) 4 (nI 0) := by
    show (mW1 (mUp (mW1 (mW1 (mW1 (mW1 (mW1 (mUp (mUp (mUp (mW1 (mW1 (mW1 (mW1 (mW1 (mW1 (mW1 (mUp (mW1 (mW1 (mW1 (mW1 M 13 3 (nI 0)) 13 4 (nI 0)) 13 5 (nI 0)) 13 6 (nI 0)) 15 (aFill (M 15) 10 (-1))) 14 1 (nI 0)) 14 2 (-1)) 14 3 (-1)) 14 4 (-1)) 14 5 (nI 0)) 14 6 (nI 0)) 14 7 (-1)) 18 (aFill (M 18) 4 (nI 0))) 19 (aFill (M 19) 4 (nI 0))) 23 (aFill (M 23) 2 (nI 0))) 16 7 (nI 0)) 16 8 (nI 0)) 16 9 (nI 4)) 16 10 (nI 0)) 16 11 (nI 0)) 25 (aFill (M 25) 12 (nI 0))) 24 1 (nI 0)) 18 = _
    simp (disch := decide) only [mW1_k, mW1_s, mW1_c, mUp_at, mUp_ne]
  have a6 : M22 19 = aFill (M 19) 4 (nI 0) := by
    show (mW1 (mUp (mW1 (mW1 (mW1 (mW1 (mW1 (mUp (mUp (mUp (mW1 (mW1 (mW1 (mW1 (mW1 (mW1 (mW1 (mUp (mW1 (mW1 (mW1 (mW1 M 13 3 (nI 0)) 13 4 (nI 0)) 13 5 (nI 0)) 13 6 (nI 0)) 15 (aFill (M 15) 10 (-1))) 14 1 (nI 0)) 14 2 (-1)) 14 3 (-1)) 14 4 (-1)) 14 5 (nI 0)) 14 6 (nI 0)) 14 7 (-1)) 18 (aFill (M 18) 4 (nI 0))) 19 (aFill (M 19) 4 (nI 0))) 23 (aFill (M 23) 2 (nI 0))) 16 7 (nI 0)) 16 8 (nI 0)) 16 9 (nI 4)) 16 10 (nI 0)) 16 11 (nI 0)) 25 (aFill (M 25) 12 (nI 0))) 24 1 (nI 0)) 19 = _
    simp (disch := decide) only [mW1_k, mW1_s, mW1_c, mUp_at, mUp_ne]
  have a10 : M22 23 = aFill (M 23) 2 (nI 0) := by
    show (mW1 (mUp (mW1 (mW1 (mW1 (mW1 (mW1 (mUp (mUp (mUp (mW1 (mW1 (mW1 (mW1 (mW1 (mW1 (mW1 (mUp (mW1 (mW1 (mW1 (mW1 M 13 3 (nI 0)) 13 4 (nI 0)) 13 5 (nI 0)) 13 6 (nI 0)) 15 (aFill (M 15) 10 (-1))) 14 1 (nI 0)) 14 2 (-1)) 14 3 (-1)) 14 4 (-1)) 14 5 (nI 0)) 14 6 (nI 0)) 14 7 (-1)) 18 (aFill (M 18) 4 (nI 0))) 19 (aFill (M 19) 4 (nI 0))) 23 (aFill (M 23) 2 (nI 0))) 16 7 (nI 0)) 16 8 (nI 0)) 16 9 (nI 4)) 16 10 (nI 0)) 16 11 (nI 0)) 25 (aFill (M 25) 12 (nI 0))) 24 1 (nI 0)) 23 = _
    simp (disch := decide) only [mW1_k, mW1_s, mW1_c, mUp_at, mUp_ne]
  have a12 : M22 25 = aFill (M 25) 12 (nI 0) := by
    show (mW1 (mUp (mW1 (mW1 (mW1 (mW1 (mW1 (mUp (mUp (mUp (mW1 (mW1 (mW1 (mW1 (mW1 (mW1 (mW1 (mUp (mW1 (mW1 (mW1 (mW1 M 13 3 (nI 0)) 13 4 (nI 0)) 13 5 (nI 0)) 13 6 (nI 0)) 15 (aFill (M 15) 10 (-1))) 14 1 (nI 0)) 14 2 (-1)) 14 3 (-1)) 14 4 (-1)) 14 5 (nI 0)) 14 6 (nI 0)) 14 7 (-1)) 18 (aFill (M 18) 4 (nI 0))) 19 (aFill (M 19) 4 (nI 0))) 23 (aFill (M 23) 2 (nI 0))) 16 7 (nI 0)) 16 8 (nI 0)) 16 9 (nI 4)) 16 10 (nI 0)) 16 11 (nI 0)) 25 (aFill (M 25) 12 (nI 0))) 24 1 (nI 0)) 25 = _
    simp (disch := decide) only [mW1_k, mW1_s, mW1_c, mUp_at, mUp_ne]
  refine hP M22 ⟨⟨⟨c0_3, c0_4, c0_5, c0_6⟩, ⟨c1_1, c1_5, c1_6, c1_2, c1_3, c1_4, c1_7, fun j hj => ?_⟩, ⟨⟨c3_7, c3_8, c3_9, c3_10, c3_11⟩, fun j hj => absurd hj (Nat.not_lt_zero _), fun j hj => ?_, fun j hj => ?_, fun i hi => absurd hi (Nat.not_lt_zero _), fun i hi => absurd hi (Nat.not_succ_le_zero _), ?_, ?_⟩, ⟨c11_1, fun q hq => (by cases hq), fun j hj => ?_⟩⟩, fun c hc => ?_⟩
  · rw [a2]
    exact if_pos hj
  · rw [a5]
    exact if_pos hj
  · rw [a6]
    exact (if_pos hj).trans (aHd_nil (dl := fun _ => 0) (q := j)).symm
  · rw [a10]
    exact if_pos (by decide)
  · rw [a10]
    exact if_pos (by decide)
  · rw [a12]
    exact if_pos hj
  · show (mW1 (mUp (mW1 (mW1 (mW1 (mW1 (mW1 (mUp (mUp (mUp (mW1 (mW1 (mW1 (mW1 (mW1 (mW1 (mW1 (mUp (mW1 (mW1 (mW1 (mW1 M 13 3 (nI 0)) 13 4 (nI 0)) 13 5 (nI 0)) 13 6 (nI 0)) 15 (aFill (M 15) 10 (-1))) 14 1 (nI 0)) 14 2 (-1)) 14 3 (-1)) 14 4 (-1)) 14 5 (nI 0)) 14 6 (nI 0)) 14 7 (-1)) 18 (aFill (M 18) 4 (nI 0))) 19 (aFill (M 19) 4 (nI 0))) 23 (aFill (M 23) 2 (nI 0))) 16 7 (nI 0)) 16 8 (nI 0)) 16 9 (nI 4)) 16 10 (nI 0)) 16 11 (nI 0)) 25 (aFill (M 25) 12 (nI 0))) 24 1 (nI 0)) c = _
    simp (disch := omega) only [mW1_c, mUp_ne]
set_option maxRecDepth 100000 in
theorem v_cr_0_26 (g : mG) (M : mM) (P : mP) 
    (h : let M1 : mM := mW1 M 26 3 (nI 0); let M2 : mM := mW1 M1 26 4 (nI 0); let M3 : mM := mW1 M2 26 5 (nI 0); let M4 : mM := mW1 M3 26 6 (nI 0); let M5 : mM := mUp M4 28 (aFill (M 28) 10 (-1)); let M6 : mM := mW1 M5 27 1 (nI 0); let M7 : mM := mW1 M6 27 2 (-1); let M8 : mM := mW1 M7 27 3 (-1); let M9 : mM := mW1 M8 27 4 (-1); let M10 : mM := mW1 M9 27 5 (nI 0); let M11 : mM := mW1 M10 27 6 (nI 0); let M12 : mM := mW1 M11 27 7 (-1); let M13 : mM := mUp M12 31 (aFill (M 31) 4 (nI 0)); let M14 : mM := mUp M13 32 (aFill (M 32) 4 (nI 0)); let M15 : mM := mUp M14 36 (aFill (M 36) 2 (nI 0)); let M16 : mM := mW1 M15 29 7 (nI 0); let M17 : mM := mW1 M16 29 8 (nI 0); let M18 : mM := mW1 M17 29 9 (nI 4); let M19 : mM := mW1 M18 29 10 (nI 0); let M20 : mM := mW1 M19 29 11 (nI 0); let M21 : mM := mUp M20 38 (aFill (M 38) 12 (nI 0)); ((nI 0) = 0 ∨ (nI 0) = 1) ∧ (let M22 : mM := mW1 M21 37 1 (nI 0); P none M22)) :
    mRun (mSx g) (f_X5_clear g) P (0, [some (.inr (some 26))], [], M) := mRun.vc (m_X5_clear g) [] 23 h

theorem cr_run_26 (g : mG) (P : mP) (M : mM) (hP : ∀ M', RpT 26 M' tb0 ∧ FrT 26 M M' → P none M') :
    mRun (mSx g) (f_X5_clear g) P (0, [some (.inr (some 26))], [], M) := by
  refine v_cr_0_26 g M P ?_
  intro M1 M2 M3 M4 M5 M6 M7 M8 M9 M10 M11 M12 M13 M14 M15 M16 M17 M18 M19 M20 M21
  refine ⟨Or.inl rfl, ?_⟩
  intro M22
  have c0_3 : M22 26 3 = nI 0 := by
    show (mW1 (mUp (mW1 (mW1 (mW1 (mW1 (mW1 (mUp (mUp (mUp (mW1 (mW1 (mW1 (mW1 (mW1 (mW1 (mW1 (mUp (mW1 (mW1 (mW1 (mW1 M 26 3 (nI 0)) 26 4 (nI 0)) 26 5 (nI 0)) 26 6 (nI 0)) 28 (aFill (M 28) 10 (-1))) 27 1 (nI 0)) 27 2 (-1)) 27 3 (-1)) 27 4 (-1)) 27 5 (nI 0)) 27 6 (nI 0)) 27 7 (-1)) 31 (aFill (M 31) 4 (nI 0))) 32 (aFill (M 32) 4 (nI 0))) 36 (aFill (M 36) 2 (nI 0))) 29 7 (nI 0)) 29 8 (nI 0)) 29 9 (nI 4)) 29 10 (nI 0)) 29 11 (nI 0)) 38 (aFill (M 38) 12 (nI 0))) 37 1 (nI 0)) 26 3 = _
    simp (disch := decide) only [mW1_k, mW1_s, mW1_c, mUp_at, mUp_ne]
  have c0_4 : M22 26 4 = nI 0 := by
    show (mW1 (mUp (mW1 (mW1 (mW1 (mW1 (mW1 (mUp (mUp (mUp (mW1 (mW1 (mW1 (mW1 (mW1 (mW1 (mW1 (mUp (mW1 (mW1 (mW1 (mW1 M 26 3 (nI 0)) 26 4 (nI 0)) 26 5 (nI 0)) 26 6 (nI 0)) 28 (aFill (M 28) 10 (-1))) 27 1 (nI 0)) 27 2 (-1)) 27 3 (-1)) 27 4 (-1)) 27 5 (nI 0)) 27 6 (nI 0)) 27 7 (-1)) 31 (aFill (M 31) 4 (nI 0))) 32 (aFill (M 32) 4 (nI 0))) 36 (aFill (M 36) 2 (nI 0))) 29 7 (nI 0)) 29 8 (nI 0)) 29 9 (nI 4)) 29 10 (nI 0)) 29 11 (nI 0)) 38 (aFill (M 38) 12 (nI 0))) 37 1 (nI 0)) 26 4 = _
    simp (disch := decide) only [mW1_k, mW1_s, mW1_c, mUp_at, mUp_ne]
  have c0_5 : M22 26 5 = nI 0 := by
    show (mW1 (mUp (mW1 (mW1 (mW1 (mW1 (mW1 (mUp (mUp (mUp (mW1 (mW1 (mW1 (mW1 (mW1 (mW1 (mW1 (mUp (mW1 (mW1 (mW1 (mW1 M 26 3 (nI 0)) 26 4 (nI 0)) 26 5 (nI 0)) 26 6 (nI 0)) 28 (aFill (M 28) 10 (-1))) 27 1 (nI 0)) 27 2 (-1)) 27 3 (-1)) 27 4 (-1)) 27 5 (nI 0)) 27 6 (nI 0)) 27 7 (-1)) 31 (aFill (M 31) 4 (nI 0))) 32 (aFill (M 32) 4 (nI 0))) 36 (aFill (M 36) 2 (nI 0))) 29 7 (nI 0)) 29 8 (nI 0)) 29 9 (nI 4)) 29 10 (nI 0)) 29 11 (nI 0)) 38 (aFill (M 38) 12 (nI 0))) 37 1 (nI 0)) 26 5 = _
    simp (disch := decide) only [mW1_k, mW1_s, mW1_c, mUp_at, mUp_ne]
  have c0_6 : M22 26 6 = nI 0 := by
    show (mW1 (mUp (mW1 (mW1 (mW1 (mW1 (mW1 (mUp (mUp (mUp (mW1 (mW1 (mW1 (mW1 (mW1 (mW1 (mW1 (mUp (mW1 (mW1 (mW1 (mW1 M 26 3 (nI 0)) 26 4 (nI 0)) 26 5 (nI 0)) 26 6 (nI 0)) 28 (aFill (M 28) 10 (-1))) 27 1 (nI 0)) 27 2 (-1)) 27 3 (-1)) 27 4 (-1)) 27 5 (nI 0)) 27 6 (nI 0)) 27 7 (-1)) 31 (aFill (M 31) 4 (nI 0))) 32 (aFill (M 32) 4 (nI 0))) 36 (aFill (M 36) 2 (nI 0))) 29 7 (nI 0)) 29 8 (nI 0)) 29 9 (nI 4)) 29 10 (nI 0)) 29 11 (nI 0)) 38 (aFill (M 38) 12 (nI 0))) 37 1 (nI 0)) 26 6 = _
    simp (disch := decide) only [mW1_k, mW1_s, mW1_c, mUp_at, mUp_ne]
  have c1_1 : M22 27 1 = nI 0 := by
    show (mW1 (mUp (mW1 (mW1 (mW1 (mW1 (mW1 (mUp (mUp (mUp (mW1 (mW1 (mW1 (mW1 (mW1 (mW1 (mW1 (mUp (mW1 (mW1 (mW1 (mW1 M 26 3 (nI 0)) 26 4 (nI 0)) 26 5 (nI 0)) 26 6 (nI 0)) 28 (aFill (M 28) 10 (-1))) 27 1 (nI 0)) 27 2 (-1)) 27 3 (-1)) 27 4 (-1)) 27 5 (nI 0)) 27 6 (nI 0)) 27 7 (-1)) 31 (aFill (M 31) 4 (nI 0))) 32 (aFill (M 32) 4 (nI 0))) 36 (aFill (M 36) 2 (nI 0))) 29 7 (nI 0)) 29 8 (nI 0)) 29 9 (nI 4)) 29 10 (nI 0)) 29 11 (nI 0)) 38 (aFill (M 38) 12 (nI 0))) 37 1 (nI 0)) 27 1 = _
    simp (disch := decide) only [mW1_k, mW1_s, mW1_c, mUp_at, mUp_ne]
  have c1_2 : M22 27 2 = -1 := by
    show (mW1 (mUp (mW1 (mW1 (mW1 (mW1 (mW1 (mUp (mUp (mUp (mW1 (mW1 (mW1 (mW1 (mW1 (mW1 (mW1 (mUp (mW1 (mW1 (mW1 (mW1 M 26 3 (nI 0)) 26 4 (nI 0)) 26 5 (nI 0)) 26 6 (nI 0)) 28 (aFill (M 28) 10 (-1))) 27 1 (nI 0)) 27 2 (-1)) 27 3 (-1)) 27 4 (-1)) 27 5 (nI 0)) 27 6 (nI 0)) 27 7 (-1)) 31 (aFill (M 31) 4 (nI 0))) 32 (aFill (M 32) 4 (nI 0))) 36 (aFill (M 36) 2 (nI 0))) 29 7 (nI 0)) 29 8 (nI 0)) 29 9 (nI 4)) 29 10 (nI 0)) 29 11 (nI 0)) 38 (aFill (M 38) 12 (nI 0))) 37 1 (nI 0)) 27 2 = _
    simp (disch := decide) only [mW1_k, mW1_s, mW1_c, mUp_at, mUp_ne]
  have c1_3 : M22 27 3 = -1 := by
    show (mW1 (mUp (mW1 (mW1 (mW1 (mW1 (mW1 (mUp (mUp (mUp (mW1 (mW1 (mW1 (mW1 (mW1 (mW1 (mW1 (mUp (mW1 (mW1 (mW1 (mW1 M 26 3 (nI 0)) 26 4 (nI 0)) 26 5 (nI 0)) 26 6 (nI 0)) 28 (aFill (M 28) 10 (-1))) 27 1 (nI 0)) 27 2 (-1)) 27 3 (-1)) 27 4 (-1)) 27 5 (nI 0)) 27 6 (nI 0)) 27 7 (-1)) 31 (aFill (M 31) 4 (nI 0))) 32 (aFill (M 32) 4 (nI 0))) 36 (aFill (M 36) 2 (nI 0))) 29 7 (nI 0)) 29 8 (nI 0)) 29 9 (nI 4)) 29 10 (nI 0)) 29 11 (nI 0)) 38 (aFill (M 38) 12 (nI 0))) 37 1 (nI 0)) 27 3 = _
    simp (disch := decide) only [mW1_k, mW1_s, mW1_c, mUp_at, mUp_ne]
  have c1_4 : M22 27 4 = -1 := by
    show (mW1 (mUp (mW1 (mW1 (mW1 (mW1 (mW1 (mUp (mUp (mUp (mW1 (mW1 (mW1 (mW1 (mW1 (mW1 (mW1 (mUp (mW1 (mW1 (mW1 (mW1 M 26 3 (nI 0)) 26 4 (nI 0)) 26 5 (nI 0)) 26 6 (nI 0)) 28 (aFill (M 28) 10 (-1))) 27 1 (nI 0)) 27 2 (-1)) 27 3 (-1)) 27 4 (-1)) 27 5 (nI 0)) 27 6 (nI 0)) 27 7 (-1)) 31 (aFill (M 31) 4 (nI 0))) 32 (aFill (M 32) 4 (nI 0))) 36 (aFill (M 36) 2 (nI 0))) 29 7 (nI 0)) 29 8 (nI 0)) 29 9 (nI 4)) 29 10 (nI 0)) 29 11 (nI 0)) 38 (aFill (M 38) 12 (nI 0))) 37 1 (nI 0)) 27 4 = _
    simp (disch := decide) only [mW1_k, mW1_s, mW1_c, mUp_at, mUp_ne]
  have c1_5 : M22 27 5 = nI 0 := by
    show (mW1 (mUp (mW1 (mW1 (mW1 (mW1 (mW1 (mUp (mUp (mUp (mW1 (mW1 (mW1 (mW1 (mW1 (mW1 (mW1 (mUp (mW1 (mW1 (mW1 (mW1 M 26 3 (nI 0)) 26 4 (nI 0)) 26 5 (nI 0)) 26 6 (nI 0)) 28 (aFill (M 28) 10 (-1))) 27 1 (nI 0)) 27 2 (-1)) 27 3 (-1)) 27 4 (-1)) 27 5 (nI 0)) 27 6 (nI 0)) 27 7 (-1)) 31 (aFill (M 31) 4 (nI 0))) 32 (aFill (M 32) 4 (nI 0))) 36 (aFill (M 36) 2 (nI 0))) 29 7 (nI 0)) 29 8 (nI 0)) 29 9 (nI 4)) 29 10 (nI 0)) 29 11 (nI 0)) 38 (aFill (M 38) 12 (nI 0))) 37 1 (nI 0)) 27 5 = _
    simp (disch := decide) only [mW1_k, mW1_s, mW1_c, mUp_at, mUp_ne]
  have c1_6 : M22 27 6 = nI 0 := by
    show (mW1 (mUp (mW1 (mW1 (mW1 (mW1 (mW1 (mUp (mUp (mUp (mW1 (mW1 (mW1 (mW1 (mW1 (mW1 (mW1 (mUp (mW1 (mW1 (mW1 (mW1 M 26 3 (nI 0)) 26 4 (nI 0)) 26 5 (nI 0)) 26 6 (nI 0)) 28 (aFill (M 28) 10 (-1))) 27 1 (nI 0)) 27 2 (-1)) 27 3 (-1)) 27 4 (-1)) 27 5 (nI 0)) 27 6 (nI 0)) 27 7 (-1)) 31 (aFill (M 31) 4 (nI 0))) 32 (aFill (M 32) 4 (nI 0))) 36 (aFill (M 36) 2 (nI 0))) 29 7 (nI 0)) 29 8 (nI 0)) 29 9 (nI 4)) 29 10 (nI 0)) 29 11 (nI 0)) 38 (aFill (M 38) 12 (nI 0))) 37 1 (nI 0)) 27 6 = _
    simp (disch := decide) only [mW1_k, mW1_s, mW1_c, mUp_at, mUp_ne]
  have c1_7 : M22 27 7 = -1 := by
    show (mW1 (mUp (mW1 (mW1 (mW1 (mW1 (mW1 (mUp (mUp (mUp (mW1 (mW1 (mW1 (mW1 (mW1 (mW1 (mW1 (mUp (mW1 (mW1 (mW1 (mW1 M 26 3 (nI 0)) 26 4 (nI 0)) 26 5 (nI 0)) 26 6 (nI 0)) 28 (aFill (M 28) 10 (-1))) 27 1 (nI 0)) 27 2 (-1)) 27 3 (-1)) 27 4 (-1)) 27 5 (nI 0)) 27 6 (nI 0)) 27 7 (-1)) 31 (aFill (M 31) 4 (nI 0))) 32 (aFill (M 32) 4 (nI 0))) 36 (aFill (M 36) 2 (nI 0))) 29 7 (nI 0)) 29 8 (nI 0)) 29 9 (nI 4)) 29 10 (nI 0)) 29 11 (nI 0)) 38 (aFill (M 38) 12 (nI 0))) 37 1 (nI 0)) 27 7 = _
    simp (disch := decide) only [mW1_k, mW1_s, mW1_c, mUp_at, mUp_ne]
  have c3_7 : M22 29 7 = nI 0 := by
    show (mW1 (mUp (mW1 (mW1 (mW1 (mW1 (mW1 (mUp (mUp (mUp (mW1 (mW1 (mW1 (mW1 (mW1 (mW1 (mW1 (mUp (mW1 (mW1 (mW1 (mW1 M 26 3 (nI 0)) 26 4 (nI 0)) 26 5 (nI 0)) 26 6 (nI 0)) 28 (aFill (M 28) 10 (-1))) 27 1 (nI 0)) 27 2 (-1)) 27 3 (-1)) 27 4 (-1)) 27 5 (nI 0)) 27 6 (nI 0)) 27 7 (-1)) 31 (aFill (M 31) 4 (nI 0))) 32 (aFill (M 32) 4 (nI 0))) 36 (aFill (M 36) 2 (nI 0))) 29 7 (nI 0)) 29 8 (nI 0)) 29 9 (nI 4)) 29 10 (nI 0)) 29 11 (nI 0)) 38 (aFill (M 38) 12 (nI 0))) 37 1 (nI 0)) 29 7 = _
    simp (disch := decide) only [mW1_k, mW1_s, mW1_c, mUp_at, mUp_ne]
  have c3_8 : M22 29 8 = nI 0 := by
    show (mW1 (mUp (mW1 (mW1 (mW1 (mW1 (mW1 (mUp (mUp (mUp (mW1 (mW1 (mW1 (mW1 (mW1 (mW1 (mW1 (mUp (mW1 (mW1 (mW1 (mW1 M 26 3 (nI 0)) 26 4 (nI 0)) 26 5 (nI 0)) 26 6 (nI 0)) 28 (aFill (M 28) 10 (-1))) 27 1 (nI 0)) 27 2 (-1)) 27 3 (-1)) 27 4 (-1)) 27 5 (nI 0)) 27 6 (nI 0)) 27 7 (-1)) 31 (aFill (M 31) 4 (nI 0))) 32 (aFill (M 32) 4 (nI 0))) 36 (aFill (M 36) 2 (nI 0))) 29 7 (nI 0)) 29 8 (nI 0)) 29 9 (nI 4)) 29 10 (nI 0)) 29 11 (nI 0)) 38 (aFill (M 38) 12 (nI 0))) 37 1 (nI 0)) 29 8 = _
    simp (disch := decide) only [mW1_k, mW1_s, mW1_c, mUp_at, mUp_ne]
  have c3_9 : M22 29 9 = nI 4 := by
    show (mW1 (mUp (mW1 (mW1 (mW1 (mW1 (mW1 (mUp (mUp (mUp (mW1 (mW1 (mW1 (mW1 (mW1 (mW1 (mW1 (mUp (mW1 (mW1 (mW1 (mW1 M 26 3 (nI 0)) 26 4 (nI 0)) 26 5 (nI 0)) 26 6 (nI 0)) 28 (aFill (M 28) 10 (-1))) 27 1 (nI 0)) 27 2 (-1)) 27 3 (-1)) 27 4 (-1)) 27 5 (nI 0)) 27 6 (nI 0)) 27 7 (-1)) 31 (aFill (M 31) 4 (nI 0))) 32 (aFill (M 32) 4 (nI 0))) 36 (aFill (M 36) 2 (nI 0))) 29 7 (nI 0)) 29 8 (nI 0)) 29 9 (nI 4)) 29 10 (nI 0)) 29 11 (nI 0)) 38 (aFill (M 38) 12 (nI 0))) 37 1 (nI 0)) 29 9 = _
    simp (disch := decide) only [mW1_k, mW1_s, mW1_c, mUp_at, mUp_ne]
  have c3_10 : M22 29 10 = nI 0 := by
    show (mW1 (mUp (mW1 (mW1 (mW1 (mW1 (mW1 (mUp (mUp (mUp (mW1 (mW1 (mW1 (mW1 (mW1 (mW1 (mW1 (mUp (mW1 (mW1 (mW1 (mW1 M 26 3 (nI 0)) 26 4 (nI 0)) 26 5 (nI 0)) 26 6 (nI 0)) 28 (aFill (M 28) 10 (-1))) 27 1 (nI 0)) 27 2 (-1)) 27 3 (-1)) 27 4 (-1)) 27 5 (nI 0)) 27 6 (nI 0)) 27 7 (-1)) 31 (aFill (M 31) 4 (nI 0))) 32 (aFill (M 32) 4 (nI 0))) 36 (aFill (M 36) 2 (nI 0))) 29 7 (nI 0)) 29 8 (nI 0)) 29 9 (nI 4)) 29 10 (nI 0)) 29 11 (nI 0)) 38 (aFill (M 38) 12 (nI 0))) 37 1 (nI 0)) 29 10 = _
    simp (disch := decide) only [mW1_k, mW1_s, mW1_c, mUp_at, mUp_ne]
  have c3_11 : M22 29 11 = nI 0 := by
    show (mW1 (mUp (mW1 (mW1 (mW1 (mW1 (mW1 (mUp (mUp (mUp (mW1 (mW1 (mW1 (mW1 (mW1 (mW1 (mW1 (mUp (mW1 (mW1 (mW1 (mW1 M 26 3 (nI 0)) 26 4 (nI 0)) 26 5 (nI 0)) 26 6 (nI 0)) 28 (aFill (M 28) 10 (-1))) 27 1 (nI 0)) 27 2 (-1)) 27 3 (-1)) 27 4 (-1)) 27 5 (nI 0)) 27 6 (nI 0)) 27 7 (-1)) 31 (aFill (M 31) 4 (nI 0))) 32 (aFill (M 32) 4 (nI 0))) 36 (aFill (M 36) 2 (nI 0))) 29 7 (nI 0)) 29 8 (nI 0)) 29 9 (nI 4)) 29 10 (nI 0)) 29 11 (nI 0)) 38 (aFill (M 38) 12 (nI 0))) 37 1 (nI 0)) 29 11 = _
    simp (disch := decide) only [mW1_k, mW1_s, mW1_c, mUp_at, mUp_ne]
  have c11_1 : M22 37 1 = nI 0 := by
    show (mW1 (mUp (mW1 (mW1 (mW1 (mW1 (mW1 (mUp (mUp (mUp (mW1 (mW1 (mW1 (mW1 (mW1 (mW1 (mW1 (mUp (mW1 (mW1 (mW1 (mW1 M 26 3 (nI 0)) 26 4 (nI 0)) 26 5 (nI 0)) 26 6 (nI 0)) 28 (aFill (M 28) 10 (-1))) 27 1 (nI 0)) 27 2 (-1)) 27 3 (-1)) 27 4 (-1)) 27 5 (nI 0)) 27 6 (nI 0)) 27 7 (-1)) 31 (aFill (M 31) 4 (nI 0))) 32 (aFill (M 32) 4 (nI 0))) 36 (aFill (M 36) 2 (nI 0))) 29 7 (nI 0)) 29 8 (nI 0)) 29 9 (nI 4)) 29 10 (nI 0)) 29 11 (nI 0)) 38 (aFill (M 38) 12 (nI 0))) 37 1 (nI 0)) 37 1 = _
    simp (disch := decide) only [mW1_k, mW1_s, mW1_c, mUp_at, mUp_ne]
  have a2 : M22 28 = aFill (M 28) 10 (-1) := by
    show (mW1 (mUp (mW1 (mW1 (mW1 (mW1 (mW1 (mUp (mUp (mUp (mW1 (mW1 (mW1 (mW1 (mW1 (mW1 (mW1 (mUp (mW1 (mW1 (mW1 (mW1 M 26 3 (nI 0)) 26 4 (nI 0)) 26 5 (nI 0)) 26 6 (nI 0)) 28 (aFill (M 28) 10 (-1))) 27 1 (nI 0)) 27 2 (-1)) 27 3 (-1)) 27 4 (-1)) 27 5 (nI 0)) 27 6 (nI 0)) 27 7 (-1)) 31 (aFill (M 31) 4 (nI 0))) 32 (aFill (M 32) 4 (nI 0))) 36 (aFill (M 36) 2 (nI 0))) 29 7 (nI 0)) 29 8 (nI 0)) 29 9 (nI 4)) 29 10 (nI 0)) 29 11 (nI 0)) 38 (aFill (M 38) 12 (nI 0))) 37 1 (nI 0)) 28 = _
    simp (disch := decide) only [mW1_k, mW1_s, mW1_c, mUp_at, mUp_ne]
  have a5 : M22 31 = aFill (M 31) 4 (nI 0) := by
    show (mW1 (mUp (mW1 (mW1 (mW1 (mW1 (mW1 (mUp (mUp (mUp (mW1 (mW1 (mW1 (mW1 (mW1 (mW1 (mW1 (mUp (mW1 (mW1 (mW1 (mW1 M 26 3 (nI 0)) 26 4 (nI 0)) 26 5 (nI 0)) 26 6 (nI 0)) 28 (aFill (M 28) 10 (-1))) 27 1 (nI 0)) 27 2 (-1)) 27 3 (-1)) 27 4 (-1)) 27 5 (nI 0)) 27 6 (nI 0)) 27 7 (-1)) 31 (aFill (M 31) 4 (nI 0))) 32 (aFill (M 32) 4 (nI 0))) 36 (aFill (M 36) 2 (nI 0))) 29 7 (nI 0)) 29 8 (nI 0)) 29 9 (nI 4)) 29 10 (nI 0)) 29 11 (nI 0)) 38 (aFill (M 38) 12 (nI 0))) 37 1 (nI 0)) 31 = _
    simp (disch := decide) only [mW1_k, mW1_s, mW1_c, mUp_at, mUp_ne]
  have a6 : M22 32 = aFill (M 32) 4 (nI 0) := by
    show (mW1 (mUp (mW1 (mW1 (mW1 (mW1 (mW1 (mUp (mUp (mUp (mW1 (mW1 (mW1 (mW1 (mW1 (mW1 (mW1 (mUp (mW1 (mW1 (mW1 (mW1 M 26 3 (nI 0)) 26 4 (nI 0)) 26 5 (nI 0)) 26 6 (nI 0)) 28 (aFill (M 28) 10 (-1))) 27 1 (nI 0)) 27 2 (-1)) 27 3 (-1)) 27 4 (-1)) 27 5 (nI 0)) 27 6 (nI 0)) 27 7 (-1)) 31 (aFill (M 31) 4 (nI 0))) 32 (aFill (M 32) 4 (nI 0))) 36 (aFill (M 36) 2 (nI 0))) 29 7 (nI 0)) 29 8 (nI 0)) 29 9 (nI 4)) 29 10 (nI 0)) 29 11 (nI 0)) 38 (aFill (M 38) 12 (nI 0))) 37 1 (nI 0)) 32 = _
    simp (disch := decide) only [mW1_k, mW1_s, mW1_c, mUp_at, mUp_ne]
  have a10 : M22 36 = aFill (M 36) 2 (nI 0) := by
    show (mW1 (mUp (mW1 (mW1 (mW1 (mW1 (mW1 (mUp (mUp (mUp (mW1 (mW1 (mW1 (mW1 (mW1 (mW1 (mW1 (mUp (mW1 (mW1 (mW1 (mW1 M 26 3 (nI 0)) 26 4 (nI 0)) 26 5 (nI 0)) 26 6 (nI 0)) 28 (aFill (M 28) 10 (-1))) 27 1 (nI 0)) 27 2 (-1)) 27 3 (-1)) 27 4 (-1)) 27 5 (nI 0)) 27 6 (nI 0)) 27 7 (-1)) 31 (aFill (M 31) 4 (nI 0))) 32 (aFill (M 32) 4 (nI 0))) 36 (aFill (M 36) 2 (nI 0))) 29 7 (nI 0)) 29 8 (nI 0)) 29 9 (nI 4)) 29 10 (nI 0)) 29 11 (nI 0)) 38 (aFill (M 38) 12 (nI 0))) 37 1 (nI 0)) 36 = _
    simp (disch := decide) only [mW1_k, mW1_s, mW1_c, mUp_at, mUp_ne]
  have a12 : M22 38 = aFill (M 38) 12 (nI 0) := by
    show (mW1 (mUp (mW1 (mW1 (mW1 (mW1 (mW1 (mUp (mUp (mUp (mW1 (mW1 (mW1 (mW1 (mW1 (mW1 (mW1 (mUp (mW1 (mW1 (mW1 (mW1 M 26 3 (nI 0)) 26 4 (nI 0)) 26 5 (nI 0)) 26 6 (nI 0)) 28 (aFill (M 28) 10 (-1))) 27 1 (nI 0)) 27 2 (-1)) 27 3 (-1)) 27 4 (-1)) 27 5 (nI 0)) 27 6 (nI 0)) 27 7 (-1)) 31 (aFill (M 31) 4 (nI 0))) 32 (aFill (M 32) 4 (nI 0))) 36 (aFill (M 36) 2 (nI 0))) 29 7 (nI 0)) 29 8 (nI 0)) 29 9 (nI 4)) 29 10 (nI 0)) 29 11 (nI 0)) 38 (aFill (M 38) 12 (nI 0))) 37 1 (nI 0)) 38 = _
    simp (disch := decide) only [mW1_k, mW1_s, mW1_c, mUp_at, mUp_ne]
  refine hP M22 ⟨⟨⟨c0_3, c0_4, c0_5, c0_6⟩, ⟨c1_1, c1_5, c1_6, c1_2, c1_3, c1_4, c1_7, fun j hj => ?_⟩, ⟨⟨c3_7, c3_8, c3_9, c3_10, c3_11⟩, fun j hj => absurd hj (Nat.not_lt_zero _), fun j hj => ?_, fun j hj => ?_, fun i hi => absurd hi (Nat.not_lt_zero _), fun i hi => absurd hi (Nat.not_succ_le_zero _), ?_, ?_⟩, ⟨c11_1, fun q hq => (by cases hq), fun j hj => ?_⟩⟩, fun c hc => ?_⟩
  · rw [a2]
    exact if_pos hj
  · rw [a5]
    exact if_pos hj
  · rw [a6]
    exact (if_pos hj).trans (aHd_nil (dl := fun _ => 0) (q := j)).symm
  · rw [a10]
    exact if_pos (by decide)
  · rw [a10]
    exact if_pos (by decide)
  · rw [a12]
    exact if_pos hj
  · show (mW1 (mUp (mW1 (mW1 (mW1 (mW1 (mW1 (mUp (mUp (mUp (mW1 (mW1 (mW1 (mW1 (mW1 (mW1 (mW1 (mUp (mW1 (mW1 (mW1 (mW1 M 26 3 (nI 0)) 26 4 (nI 0)) 26 5 (nI 0)) 26 6 (nI 0)) 28 (aFill (M 28) 10 (-1))) 27 1 (nI 0)) 27 2 (-1)) 27 3 (-1)) 27 4 (-1)) 27 5 (nI 0)) 27 6 (nI 0)) 27 7 (-1)) 31 (aFill (M 31) 4 (nI 0))) 32 (aFill (M 32) 4 (nI 0))) 36 (aFill (M 36) 2 (nI 0))) 29 7 (nI 0)) 29 8 (nI 0)) 29 9 (nI 4)) 29 10 (nI 0)) 29 11 (nI 0)) 38 (aFill (M 38) 12 (nI 0))) 37 1 (nI 0)) c = _
    simp (disch := omega) only [mW1_c, mUp_ne]
theorem run_X5_clear : mRunOf 1 t_X5_clear f_X5_clear := fun g as M P hT => by
  obtain ⟨⟨t, y⟩, ⟨h1, rfl⟩, hP⟩ := hT
  refine ⟨Nat.le_of_ble_eq_true rfl, ?_⟩
  dsimp only at h1
  rcases h1 with rfl | rfl
  · exact cr_run_13 g P M (fun M' h => hP M' h)
  · exact cr_run_26 g P M (fun M' h => hP M' h)
theorem ok_X5_clear : mOK yX5_clear cX5_clear 1 (none) 3 t_X5_clear := mOK.of f_X5_clear (by decide) (fun _ => rfl) (fun g => mCodeOK kk_X5_clear) (fun g => mFldL fk_RX5 rfl) (fun g idx v h => by cases h) (fun g idx v h => by cases h) (mCalL (l := l_X5_clear) (List.forall_mem_cons.mpr ⟨mSite.V (idx := 48) ok_X1_begin (by decide) (by decide) rv_X1_begin wc_X1_begin wk_RX5_48 wi_X1_begin wl_X1_begin wn_RX1 wd_X1_begin, List.forall_mem_cons.mpr ⟨mSite.V (idx := 52) ok_X2_clear (by decide) (by decide) rv_X2_clear wc_X2_clear wk_RX5_52 wi_X2_clear wl_X2_clear wn_RX2 wd_X2_clear, List.forall_mem_cons.mpr ⟨mSite.V (idx := 53) ok_X3_clear (by decide) (by decide) rv_X3_clear wc_X3_clear wk_RX5_53 wi_X3_clear wl_X3_clear wn_RX3 wd_X3_clear, fun _ h => absurd h List.not_mem_nil⟩⟩⟩) (fun _ => rfl)) run_X5_clear

