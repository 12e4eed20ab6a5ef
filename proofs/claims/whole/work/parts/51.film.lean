/-! ===== CLASS TrickHouse: film, what a sheet tells ===== -/
/-- tricks that are full -/
def tFull (T : aT) : Nat := T.2.2.1.2.2.2.2.length / 4
/-- who won trick i -/
def tWin (T : aT) (i : Nat) : Nat := aLd T.2.2.1.1 T.2.2.1.2.2.2.2 (i + 1)
theorem tFull_le {T : aT} (h : tInv T) : tFull T ≤ 8 := by
  have := h.len
  unfold tFull
  omega
theorem tWin_lt {T : aT} (i : Nat) : tWin T i < 4 := Nat.mod_lt _ (by decide)
theorem RpC_win {M : mM} {z : aZ} (h : RpC M z) (hI : zInv z) {i : Nat} (hi : i < tFull (zT z.2.1)) : aAt (M 22) 8 (nI i) = nI (tWin (zT z.2.1) i) := by
  have := tFull_le hI.T
  rw [aAt_in (by omega) (by decide)]
  exact h.2.2.2.1.2.2.1.2.2.2.2.2.1 i (by unfold tFull at hi; omega)
theorem RpC_full {M : mM} {z : aZ} (h : RpC M z) (hI : zInv z) : M 16 7 / nI 4 = nI (tFull (zT z.2.1)) := by
  have := hI.T.len
  rw [(RpC_play h).2, nI_div4 (by omega)]
  rfl
def F_film (z : aZ) (as : List Int32) : Int32 × aZ := match as with
  | [s] => match ix s 4 with
    | none => (-2, z)
    | some k => (nI (tFull (zT z.2.1)), zS z k (0, tFull (zT z.2.1), fun i => nI (tWin (zT z.2.1) i)))
  | _ => (0, z)
theorem shC_win {w : Nat} (h : w < 4) : shC 0 (nI w) = nI w := (shC_w (fun _ => by rw [nI_toInt (by omega)]; omega) (by omega)).mpr rfl
abbrev t_X7_film : mG → mT := pub 1 F_film
theorem mo_X7_film : mMn t_X7_film := pub_mono
theorem rv_X7_film : mHasR yX7_film 1 t_X7_film := pub_recv rfl
def k_X7_film : List (Nat × mI) := [(0, .aload_n 0, 1, 0, 0, []),
  (1, .iload_n 1, 1, 1, 0, []),
  (2, .invokevirtual 246, 3, 0, 0, []),
  (5, .astore_n 2, 1, 2, 0, []),
  (6, .aload_n 2, 1, 2, 0, []),
  (7, .ifnonnull 6, 3, 13, 0, []),
  (10, .bipush (-2), 2, 0, -2, []),
  (12, .ireturn, 1, 0, 0, []),
  (13, .aload_n 0, 1, 0, 0, []),
  (14, .getfield 29, 3, 0, 0, []),
  (17, .getfield 134, 3, 0, 0, []),
  (20, .invokevirtual 156, 3, 0, 0, []),
  (23, .istore_n 3, 1, 3, 0, []),
  (24, .aload_n 2, 1, 2, 0, []),
  (25, .iconst 0, 1, 0, nI 0, []),
  (26, .iload_n 3, 1, 3, 0, []),
  (27, .invokevirtual 264, 3, 0, 0, []),
  (30, .iconst 0, 1, 0, nI 0, []),
  (31, .istore 4, 2, 4, 0, []),
  (33, .iload 4, 2, 4, 0, []),
  (35, .iload_n 3, 1, 3, 0, []),
  (36, .if_icmp .ge 33, 3, 69, 0, []),
  (39, .aload_n 2, 1, 2, 0, []),
  (40, .getfield 268, 3, 0, 0, []),
  (43, .iload 4, 2, 4, 0, []),
  (45, .aload_n 0, 1, 0, 0, []),
  (46, .getfield 29, 3, 0, 0, []),
  (49, .getfield 134, 3, 0, 0, []),
  (52, .getfield 162, 3, 0, 0, []),
  (55, .iload 4, 2, 4, 0, []),
  (57, .invokestatic 107, 3, 0, 0, []),
  (60, .invokestatic 271, 3, 0, 0, []),
  (63, .iinc 4 1, 3, 4, nI 1, []),
  (66, .goto (-33), 3, 33, 0, []),
  (69, .iload_n 3, 1, 3, 0, []),
  (70, .ireturn, 1, 0, 0, [])]
theorem kk_X7_film : (k_X7_film.all fun e => mChk cX7_film e.1 e.2) = true := by decide +kernel
def l_X7_film : List (Nat × Nat × (mG → mT)) := [(3 * 246, 1 + 1, t_X7_sheetAt), (3 * 156, 0 + 1, t_X2_full), (3 * 264, 2 + 1, t_X4_become), (3 * 107 + 1, 2, t_X7_at), (3 * 271 + 1, 3, t_X7_set)]
def f_X7_film (g : mG) : mF := (mLk k_X7_film, mLk fl_RX7, mLk (l_X7_film.map fun e => (e.1, e.2.1, e.2.2 g)), mLk ([] : List (Nat × mV)), mLk ([] : List (Nat × mV)), some .int)
theorem m_X7_film (g : mG) : mMono (f_X7_film g) := mMonoL (g := g) (l := l_X7_film) (List.forall_mem_cons.mpr ⟨mo_X7_sheetAt, List.forall_mem_cons.mpr ⟨mo_X2_full, List.forall_mem_cons.mpr ⟨mo_X4_become, List.forall_mem_cons.mpr ⟨mo_X7_at, List.forall_mem_cons.mpr ⟨mo_X7_set, fun _ h => absurd h List.not_mem_nil⟩⟩⟩⟩⟩) rfl

theorem v_film_0 (g : mG) (M : mM) (P : mP) (x : Int32)
    (h : mRun (mSx g) (f_X7_film g) P (5, [some (.inr (some 0)), some (.inl x), none, none, none], [.inr (shR x)], M)) :
    mRun (mSx g) (f_X7_film g) P (0, [some (.inr (some 0)), some (.inl x), none, none, none], [], M) := mRun.vc (m_X7_film g) [5] 4 h

theorem v_film_N (g : mG) (M : mM) (P : mP) (x : Int32)
    (h : P (some (.inl (-2))) M) :
    mRun (mSx g) (f_X7_film g) P (5, [some (.inr (some 0)), some (.inl x), none, none, none], [.inr none], M) := mRun.vc (m_X7_film g) [] 5 h

theorem v_film_40 (g : mG) (M : mM) (P : mP) (x : Int32)
    (h : ¬ (nI 4) = 0 ∧ ((let M1 : mM := mW1 M 40 1 (nI 0); let M2 : mM := mW1 M1 40 2 ((M 16 7) / (nI 4)); let M3 : mM := mUp M2 41 (aFill (M 41) 40 (nI 0)); mRun (mSx g) (f_X7_film g) P (33, [some (.inr (some 0)), some (.inl x), some (.inr (some 40)), some (.inl ((M 16 7) / (nI 4))), some (.inl (nI 0))], [], M3)))) :
    mRun (mSx g) (f_X7_film g) P (5, [some (.inr (some 0)), some (.inl x), none, none, none], [.inr (some 40)], M) := mRun.vc (m_X7_film g) [33] 15 h

theorem v_filml_40 (g : mG) (M : mM) (P : mP) (x n i : Int32)
    (h : (n ≤ i → P (some (.inl n)) M) ∧ (¬ (n ≤ i) → let M2 : mM := mUp M 41 (aSet (M 41) 40 i (aAt (M 22) 8 i)); mRun (mSx g) (f_X7_film g) P (33, [some (.inr (some 0)), some (.inl x), some (.inr (some 40)), some (.inl n), some (.inl (i + (nI 1)))], [], M2))) :
    mRun (mSx g) (f_X7_film g) P (33, [some (.inr (some 0)), some (.inl x), some (.inr (some 40)), some (.inl n), some (.inl i)], [], M) := mRun.vc (m_X7_film g) [33] 16 h

theorem film_loop_40 (g : mG) (M0 : mM) (P : mP) (z : aZ) (x : Int32) (hR : RpC M0 z) (hI : zInv z) (hP : pubP M0 P (nI (tFull (zT z.2.1)), zS z 0 (0, tFull (zT z.2.1), fun i => nI (tWin (zT z.2.1) i)))) :
    ∀ (j i : Nat) (M : mM), i + j = tFull (zT z.2.1) → (∀ d, d ≠ 40 → d ≠ 41 → M d = M0 d) → M 40 1 = 0 → M 40 2 = nI (tFull (zT z.2.1)) → (∀ q, q < i → M 41 q = nI (tWin (zT z.2.1) q)) → mRun (mSx g) (f_X7_film g) P (33, [some (.inr (some 0)), some (.inl x), some (.inr (some 40)), some (.inl (nI (tFull (zT z.2.1)))), some (.inl (nI i))], [], M)
  | 0, i, M, h, hF, h1, h2, h3 => by
    obtain rfl : i = tFull (zT z.2.1) := by omega
    have hf := tFull_le hI.T
    refine v_filml_40 g M P _ _ _ ⟨fun _ => ?_, fun w => absurd (nI_le (Nat.le_refl _) (by omega)) w⟩
    exact hP _ _ rfl (RpC_sheet hR (by decide) ⟨h1, h2, fun q hq => (h3 q hq).trans (shC_win (tWin_lt q)).symm⟩ hF) (fun d hd => hF d (by omega) (by omega))
  | j + 1, i, M, h, hF, h1, h2, h3 => by
    have hf := tFull_le hI.T
    refine v_filml_40 g M P _ _ _ ⟨fun w => absurd w (nI_ge (by omega) (by omega)), fun _ => ?_⟩
    rw [hF 22 (by decide) (by decide), RpC_win hR hI (by omega), nI_add, aSet_in (by omega) (by decide)]
    intro M2
    refine film_loop_40 g M0 P z x hR hI hP j (i + 1) M2 (by omega) (fun d h1 h2 => (mUp_ne h2).trans (hF d h1 h2)) ?_ ?_ (fun q hq => ?_)
    · show mUp M 41 _ 40 1 = 0
      rw [mUp_ne (by decide)]
      exact h1
    · show mUp M 41 _ 40 2 = _
      rw [mUp_ne (by decide)]
      exact h2
    · show mUp M 41 _ 41 q = _
      rw [mUp_at]
      by_cases e : q = i
      · rw [e, upd_s]
      · rw [upd_n e]
        exact h3 q (by omega)
theorem film_run_40 (g : mG) (M : mM) (P : mP) (z : aZ) (hR : RpC M z) (hI : zInv z) (hP : pubP M P (nI (tFull (zT z.2.1)), zS z 0 (0, tFull (zT z.2.1), fun i => nI (tWin (zT z.2.1) i)))) (x : Int32) :
    mRun (mSx g) (f_X7_film g) P (5, [some (.inr (some 0)), some (.inl x), none, none, none], [.inr (some 40)], M) := by
  have hf := RpC_full hR hI
  refine v_film_40 g M P _ ⟨n4, ?_⟩
  rw [hf]
  intro M2 M3 M4
  refine film_loop_40 g M P z x hR hI hP _ 0 M4 (Nat.zero_add _) (fun d h1 h2 => ?_) ?_ ?_ (fun q hq => absurd hq (Nat.not_lt_zero q))
  · show mUp (mW1 (mW1 M 40 1 _) 40 2 _) 41 _ d = M d
    rw [mUp_ne h2, mW1_c h1, mW1_c h1]
  · show mUp (mW1 (mW1 M 40 1 _) 40 2 _) 41 _ 40 1 = _
    rw [mUp_ne (by decide), mW1_k (by decide), mW1_s]
    rfl
  · show mUp (mW1 (mW1 M 40 1 _) 40 2 _) 41 _ 40 2 = _
    rw [mUp_ne (by decide), mW1_s]
theorem v_film_42 (g : mG) (M : mM) (P : mP) (x : Int32)
    (h : ¬ (nI 4) = 0 ∧ ((let M1 : mM := mW1 M 42 1 (nI 0); let M2 : mM := mW1 M1 42 2 ((M 16 7) / (nI 4)); let M3 : mM := mUp M2 43 (aFill (M 43) 40 (nI 0)); mRun (mSx g) (f_X7_film g) P (33, [some (.inr (some 0)), some (.inl x), some (.inr (some 42)), some (.inl ((M 16 7) / (nI 4))), some (.inl (nI 0))], [], M3)))) :
    mRun (mSx g) (f_X7_film g) P (5, [some (.inr (some 0)), some (.inl x), none, none, none], [.inr (some 42)], M) := mRun.vc (m_X7_film g) [33] 15 h

theorem v_filml_42 (g : mG) (M : mM) (P : mP) (x n i : Int32)
    (h : (n ≤ i → P (some (.inl n)) M) ∧ (¬ (n ≤ i) → let M2 : mM := mUp M 43 (aSet (M 43) 40 i (aAt (M 22) 8 i)); mRun (mSx g) (f_X7_film g) P (33, [some (.inr (some 0)), some (.inl x), some (.inr (some 42)), some (.inl n), some (.inl (i + (nI 1)))], [], M2))) :
    mRun (mSx g) (f_X7_film g) P (33, [some (.inr (some 0)), some (.inl x), some (.inr (some 42)), some (.inl n), some (.inl i)], [], M) := mRun.vc (m_X7_film g) [33] 16 h

theorem film_loop_42 (g : mG) (M0 : mM) (P : mP) (z : aZ) (x : Int32) (hR : RpC M0 z) (hI : zInv z) (hP : pubP M0 P (nI (tFull (zT z.2.1)), zS z 1 (0, tFull (zT z.2.1), fun i => nI (tWin (zT z.2.1) i)))) :
    ∀ (j i : Nat) (M : mM), i + j = tFull (zT z.2.1) → (∀ d, d ≠ 42 → d ≠ 43 → M d = M0 d) → M 42 1 = 0 → M 42 2 = nI (tFull (zT z.2.1)) → (∀ q, q < i → M 43 q = nI (tWin (zT z.2.1) q)) → mRun (mSx g) (f_X7_film g) P (33, [some (.inr (some 0)), some (.inl x), some (.inr (some 42)), some (.inl (nI (tFull (zT z.2.1)))), some (.inl (nI i))], [], M)
  | 0, i, M, h, hF, h1, h2, h3 => by
    obtain rfl : i = tFull (zT z.2.1) := by omega
    have hf := tFull_le hI.T
    refine v_filml_42 g M P _ _ _ ⟨fun _ => ?_, fun w => absurd (nI_le (Nat.le_refl _) (by omega)) w⟩
    exact hP _ _ rfl (RpC_sheet hR (by decide) ⟨h1, h2, fun q hq => (h3 q hq).trans (shC_win (tWin_lt q)).symm⟩ hF) (fun d hd => hF d (by omega) (by omega))
  | j + 1, i, M, h, hF, h1, h2, h3 => by
    have hf := tFull_le hI.T
    refine v_filml_42 g M P _ _ _ ⟨fun w => absurd w (nI_ge (by omega) (by omega)), fun _ => ?_⟩
    rw [hF 22 (by decide) (by decide), RpC_win hR hI (by omega), nI_add, aSet_in (by omega) (by decide)]
    intro M2
    refine film_loop_42 g M0 P z x hR hI hP j (i + 1) M2 (by omega) (fun d h1 h2 => (mUp_ne h2).trans (hF d h1 h2)) ?_ ?_ (fun q hq => ?_)
    · show mUp M 43 _ 42 1 = 0
      rw [mUp_ne (by decide)]
      exact h1
    · show mUp M 43 _ 42 2 = _
      rw [mUp_ne (by decide)]
      exact h2
    · show mUp M 43 _ 43 q = _
      rw [mUp_at]
      by_cases e : q = i
      · rw [e, upd_s]
      · rw [upd_n e]
        exact h3 q (by omega)
theorem film_run_42 (g : mG) (M : mM) (P : mP) (z : aZ) (hR : RpC M z) (hI : zInv z) (hP : pubP M P (nI (tFull (zT z.2.1)), zS z 1 (0, tFull (zT z.2.1), fun i => nI (tWin (zT z.2.1) i)))) (x : Int32) :
    mRun (mSx g) (f_X7_film g) P (5, [some (.inr (some 0)), some (.inl x), none, none, none], [.inr (some 42)], M) := by
  have hf := RpC_full hR hI
  refine v_film_42 g M P _ ⟨n4, ?_⟩
  rw [hf]
  intro M2 M3 M4
  refine film_loop_42 g M P z x hR hI hP _ 0 M4 (Nat.zero_add _) (fun d h1 h2 => ?_) ?_ ?_ (fun q hq => absurd hq (Nat.not_lt_zero q))
  · show mUp (mW1 (mW1 M 42 1 _) 42 2 _) 43 _ d = M d
    rw [mUp_ne h2, mW1_c h1, mW1_c h1]
  · show mUp (mW1 (mW1 M 42 1 _) 42 2 _) 43 _ 42 1 = _
    rw [mUp_ne (by decide), mW1_k (by decide), mW1_s]
    rfl
  · show mUp (mW1 (mW1 M 42 1 _) 42 2 _) 43 _ 42 2 = _
    rw [mUp_ne (by decide), mW1_s]
theorem v_film_44 (g : mG) (M : mM) (P : mP) (x : Int32)
    (h : ¬ (nI 4) = 0 ∧ ((let M1 : mM := mW1 M 44 1 (nI 0); let M2 : mM := mW1 M1 44 2 ((M 16 7) / (nI 4)); let M3 : mM := mUp M2 45 (aFill (M 45) 40 (nI 0)); mRun (mSx g) (f_X7_film g) P (33, [some (.inr (some 0)), some (.inl x), some (.inr (some 44)), some (.inl ((M 16 7) / (nI 4))), some (.inl (nI 0))], [], M3)))) :
    mRun (mSx g) (f_X7_film g) P (5, [some (.inr (some 0)), some (.inl x), none, none, none], [.inr (some 44)], M) := mRun.vc (m_X7_film g) [33] 15 h

theorem v_filml_44 (g : mG) (M : mM) (P : mP) (x n i : Int32)
    (h : (n ≤ i → P (some (.inl n)) M) ∧ (¬ (n ≤ i) → let M2 : mM := mUp M 45 (aSet (M 45) 40 i (aAt (M 22) 8 i)); mRun (mSx g) (f_X7_film g) P (33, [some (.inr (some 0)), some (.inl x), some (.inr (some 44)), some (.inl n), some (.inl (i + (nI 1)))], [], M2))) :
    mRun (mSx g) (f_X7_film g) P (33, [some (.inr (some 0)), some (.inl x), some (.inr (some 44)), some (.inl n), some (.inl i)], [], M) := mRun.vc (m_X7_film g) [33] 16 h

theorem film_loop_44 (g : mG) (M0 : mM) (P : mP) (z : aZ) (x : Int32) (hR : RpC M0 z) (hI : zInv z) (hP : pubP M0 P (nI (tFull (zT z.2.1)), zS z 2 (0, tFull (zT z.2.1), fun i => nI (tWin (zT z.2.1) i)))) :
    ∀ (j i : Nat) (M : mM), i + j = tFull (zT z.2.1) → (∀ d, d ≠ 44 → d ≠ 45 → M d = M0 d) → M 44 1 = 0 → M 44 2 = nI (tFull (zT z.2.1)) → (∀ q, q < i → M 45 q = nI (tWin (zT z.2.1) q)) → mRun (mSx g) (f_X7_film g) P (33, [some (.inr (some 0)), some (.inl x), some (.inr (some 44)), some (.inl (nI (tFull (zT z.2.1)))), some (.inl (nI i))], [], M)
  | 0, i, M, h, hF, h1, h2, h3 => by
    obtain rfl : i = tFull (zT z.2.1) := by omega
    have hf := tFull_le hI.T
    refine v_filml_44 g M P _ _ _ ⟨fun _ => ?_, fun w => absurd (nI_le (Nat.le_refl _) (by omega)) w⟩
    exact hP _ _ rfl (RpC_sheet hR (by decide) ⟨h1, h2, fun q hq => (h3 q hq).trans (shC_win (tWin_lt q)).symm⟩ hF) (fun d hd => hF d (by omega) (by omega))
  | j + 1, i, M, h, hF, h1, h2, h3 => by
    have hf := tFull_le hI.T
    refine v_filml_44 g M P _ _ _ ⟨fun w => absurd w (nI_ge (by omega) (by omega)), fun _ => ?_⟩
    rw [hF 22 (by decide) (by decide), RpC_win hR hI (by omega), nI_add, aSet_in (by omega) (by decide)]
    intro M2
    refine film_loop_44 g M0 P z x hR hI hP j (i + 1) M2 (by omega) (fun d h1 h2 => (mUp_ne h2).trans (hF d h1 h2)) ?_ ?_ (fun q hq => ?_)
    · show mUp M 45 _ 44 1 = 0
      rw [mUp_ne (by decide)]
      exact h1
    · show mUp M 45 _ 44 2 = _
      rw [mUp_ne (by decide)]
      exact h2
    · show mUp M 45 _ 45 q = _
      rw [mUp_at]
      by_cases e : q = i
      · rw [e, upd_s]
      · rw [upd_n e]
        exact h3 q (by omega)
theorem film_run_44 (g : mG) (M : mM) (P : mP) (z : aZ) (hR : RpC M z) (hI : zInv z) (hP : pubP M P (nI (tFull (zT z.2.1)), zS z 2 (0, tFull (zT z.2.1), fun i => nI (tWin (zT z.2.1) i)))) (x : Int32) :
    mRun (mSx g) (f_X7_film g) P (5, [some (.inr (some 0)), some (.inl x), none, none, none], [.inr (some 44)], M) := by
  have hf := RpC_full hR hI
  refine v_film_44 g M P _ ⟨n4, ?_⟩
  rw [hf]
  intro M2 M3 M4
  refine film_loop_44 g M P z x hR hI hP _ 0 M4 (Nat.zero_add _) (fun d h1 h2 => ?_) ?_ ?_ (fun q hq => absurd hq (Nat.not_lt_zero q))
  · show mUp (mW1 (mW1 M 44 1 _) 44 2 _) 45 _ d = M d
    rw [mUp_ne h2, mW1_c h1, mW1_c h1]
  · show mUp (mW1 (mW1 M 44 1 _) 44 2 _) 45 _ 44 1 = _
    rw [mUp_ne (by decide), mW1_k (by decide), mW1_s]
    rfl
  · show mUp (mW1 (mW1 M 44 1 _) 44 2 _) 45 _ 44 2 = _
    rw [mUp_ne (by decide), mW1_s]
theorem v_film_46 (g : mG) (M : mM) (P : mP) (x : Int32)
    (h : ¬ (nI 4) = 0 ∧ ((let M1 : mM := mW1 M 46 1 (nI 0); let M2 : mM := mW1 M1 46 2 ((M 16 7) / (nI 4)); let M3 : mM := mUp M2 47 (aFill (M 47) 40 (nI 0)); mRun (mSx g) (f_X7_film g) P (33, [some (.inr (some 0)), some (.inl x), some (.inr (some 46)), some (.inl ((M 16 7) / (nI 4))), some (.inl (nI 0))], [], M3)))) :
    mRun (mSx g) (f_X7_film g) P (5, [some (.inr (some 0)), some (.inl x), none, none, none], [.inr (some 46)], M) := mRun.vc (m_X7_film g) [33] 15 h

theorem v_filml_46 (g : mG) (M : mM) (P : mP) (x n i : Int32)
    (h : (n ≤ i → P (some (.inl n)) M) ∧ (¬ (n ≤ i) → let M2 : mM := mUp M 47 (aSet (M 47) 40 i (aAt (M 22) 8 i)); mRun (mSx g) (f_X7_film g) P (33, [some (.inr (some 0)), some (.inl x), some (.inr (some 46)), some (.inl n), some (.inl (i + (nI 1)))], [], M2))) :
    mRun (mSx g) (f_X7_film g) P (33, [some (.inr (some 0)), some (.inl x), some (.inr (some 46)), some (.inl n), some (.inl i)], [], M) := mRun.vc (m_X7_film g) [33] 16 h

theorem film_loop_46 (g : mG) (M0 : mM) (P : mP) (z : aZ) (x : Int32) (hR : RpC M0 z) (hI : zInv z) (hP : pubP M0 P (nI (tFull (zT z.2.1)), zS z 3 (0, tFull (zT z.2.1), fun i => nI (tWin (zT z.2.1) i)))) :
    ∀ (j i : Nat) (M : mM), i + j = tFull (zT z.2.1) → (∀ d, d ≠ 46 → d ≠ 47 → M d = M0 d) → M 46 1 = 0 → M 46 2 = nI (tFull (zT z.2.1)) → (∀ q, q < i → M 47 q = nI (tWin (zT z.2.1) q)) → mRun (mSx g) (f_X7_film g) P (33, [some (.inr (some 0)), some (.inl x), some (.inr (some 46)), some (.inl (nI (tFull (zT z.2.1)))), some (.inl (nI i))], [], M)
  | 0, i, M, h, hF, h1, h2, h3 => by
    obtain rfl : i = tFull (zT z.2.1) := by omega
    have hf := tFull_le hI.T
    refine v_filml_46 g M P _ _ _ ⟨fun _ => ?_, fun w => absurd (nI_le (Nat.le_refl _) (by omega)) w⟩
    exact hP _ _ rfl (RpC_sheet hR (by decide) ⟨h1, h2, fun q hq => (h3 q hq).trans (shC_win (tWin_lt q)).symm⟩ hF) (fun d hd => hF d (by omega) (by omega))
  | j + 1, i, M, h, hF, h1, h2, h3 => by
    have hf := tFull_le hI.T
    refine v_filml_46 g M P _ _ _ ⟨fun w => absurd w (nI_ge (by omega) (by omega)), fun _ => ?_⟩
    rw [hF 22 (by decide) (by decide), RpC_win hR hI (by omega), nI_add, aSet_in (by omega) (by decide)]
    intro M2
    refine film_loop_46 g M0 P z x hR hI hP j (i + 1) M2 (by omega) (fun d h1 h2 => (mUp_ne h2).trans (hF d h1 h2)) ?_ ?_ (fun q hq => ?_)
    · show mUp M 47 _ 46 1 = 0
      rw [mUp_ne (by decide)]
      exact h1
    · show mUp M 47 _ 46 2 = _
      rw [mUp_ne (by decide)]
      exact h2
    · show mUp M 47 _ 47 q = _
      rw [mUp_at]
      by_cases e : q = i
      · rw [e, upd_s]
      · rw [upd_n e]
        exact h3 q (by omega)
theorem film_run_46 (g : mG) (M : mM) (P : mP) (z : aZ) (hR : RpC M z) (hI : zInv z) (hP : pubP M P (nI (tFull (zT z.2.1)), zS z 3 (0, tFull (zT z.2.1), fun i => nI (tWin (zT z.2.1) i)))) (x : Int32) :
    mRun (mSx g) (f_X7_film g) P (5, [some (.inr (some 0)), some (.inl x), none, none, none], [.inr (some 46)], M) := by
  have hf := RpC_full hR hI
  refine v_film_46 g M P _ ⟨n4, ?_⟩
  rw [hf]
  intro M2 M3 M4
  refine film_loop_46 g M P z x hR hI hP _ 0 M4 (Nat.zero_add _) (fun d h1 h2 => ?_) ?_ ?_ (fun q hq => absurd hq (Nat.not_lt_zero q))
  · show mUp (mW1 (mW1 M 46 1 _) 46 2 _) 47 _ d = M d
    rw [mUp_ne h2, mW1_c h1, mW1_c h1]
  · show mUp (mW1 (mW1 M 46 1 _) 46 2 _) 47 _ 46 1 = _
    rw [mUp_ne (by decide), mW1_k (by decide), mW1_s]
    rfl
  · show mUp (mW1 (mW1 M 46 1 _) 46 2 _) 47 _ 46 2 = _
    rw [mUp_ne (by decide), mW1_s]
theorem run_X7_film : mRunOf 5 t_X7_film f_X7_film := runC1 (by decide) (fun g M P z x hR hI hP => by
  refine v_film_0 g M P x ?_
  rcases ix_cs x (n := 4) (by decide) with ⟨hx, e1⟩ | ⟨j, hj, rfl, e1⟩
  · rw [shR_no e1]
    refine v_film_N g M P _ ?_
    rw [show F_film z [x] = (-2, z) by simp only [F_film, e1]] at hP
    exact hP _ _ rfl hR FrC.refl
  · rw [shR_at hj]
    rw [show F_film z [nI j] = (nI (tFull (zT z.2.1)), zS z j (0, tFull (zT z.2.1), fun i => nI (tWin (zT z.2.1) i))) by simp only [F_film, e1]] at hP
    rcases (by omega : j = 0 ∨ j = 1 ∨ j = 2 ∨ j = 3) with rfl | rfl | rfl | rfl
    · exact film_run_40 g M P z hR hI hP _
    · exact film_run_42 g M P z hR hI hP _
    · exact film_run_44 g M P z hR hI hP _
    · exact film_run_46 g M P z hR hI hP _)

theorem ok_X7_film : mOK yX7_film cX7_film 5 (some .int) 3 t_X7_film := mOK.of f_X7_film (by decide) (fun _ => rfl) (fun g => mCodeOK kk_X7_film) (fun g => mFldL fk_RX7 rfl) (fun g idx v h => by cases h) (fun g idx v h => by cases h) (mCalL (l := l_X7_film) (List.forall_mem_cons.mpr ⟨mSite.V (idx := 246) ok_X7_sheetAt (by decide) (by decide) rv_X7_sheetAt wc_X7_sheetAt wk_RX7_246 wi_X7_sheetAt wl_X7_sheetAt wn_RX7 wd_X7_sheetAt, List.forall_mem_cons.mpr ⟨mSite.V (idx := 156) ok_X2_full (by decide) (by decide) rv_X2_full wc_X2_full wk_RX7_156 wi_X2_full wl_X2_full wn_RX2 wd_X2_full, List.forall_mem_cons.mpr ⟨mSite.V (idx := 264) ok_X4_become (by decide) (by decide) rv_X4_become wc_X4_become wk_RX7_264 wi_X4_become wl_X4_become wn_RX4 wd_X4_become, List.forall_mem_cons.mpr ⟨mSite.S (idx := 107) ok_X7_at (by decide) (by decide) wc_X7_at wk_RX7_107 wt_X7_at wn_RX7 wd_X7_at, List.forall_mem_cons.mpr ⟨mSite.S (idx := 271) ok_X7_set (by decide) (by decide) wc_X7_set wk_RX7_271 wt_X7_set wn_RX7 wd_X7_set, fun _ h => absurd h List.not_mem_nil⟩⟩⟩⟩⟩) (fun _ => rfl)) run_X7_film

/-- the first i below e that p refuses -/
def fO (p : Nat → Bool) : Nat → Nat → Option Nat
  | 0, _ => none
  | n + 1, i => if p i then fO p n (i + 1) else some i
def fA (p : Nat → Bool) : Nat → Nat → Bool
  | 0, _ => true
  | n + 1, i => p i && fA p n (i + 1)
def tFirst (T : aT) (s : aSheet) : Int32 := match fO (fun i => decide (s.2.2 i = nI (tWin T i))) (min (tFull T) s.2.1) 0 with
  | some i => nI i
  | none => if tFull T = s.2.1 then -1 else nI (min (tFull T) s.2.1)
/-- who would have won trick i -/
def tWo (T : aT) (t : Int32) (h i : Nat) : Nat := (aLd T.2.2.1.1 T.2.2.1.2.2.2.2 i + aBi t h T.2.2.1.2.2.2.2 i) % 4
def dSo (T : aT) (s : aSheet) (t : Int32) (h : Nat) : Bool := decide (s.2.1 = tFull T) && fA (fun i => decide (s.2.2 i = nI (tWo T t h i))) (tFull T) 0
theorem sh_eq {M : mM} {z : aZ} {k i w : Nat} (hR : RpC M z) (hI : zInv z) (hk : k < 4) (hi : i < (z.2.2.2 k).2.1) (hw : w < 128) : aAt (M (41 + 2 * k)) 40 (nI i) = nI w ↔ (z.2.2.2 k).2.2 i = nI w := by
  have hs := hI.2.2.2 k hk
  rw [aAt_in (by have := hs.2.1; omega) (by decide), (hR.2.2.2.2.1 k hk).2.2 i hi]
  exact shC_w (fun h => hs.2.2 h i hi) hw
def pre_X7_firstOtherwise (q : Nat × aZ) (as : List mV) (M : mM) : Prop := q.1 < 4 ∧ as = [.inr (some 0), .inr (some (40 + 2 * q.1))] ∧ RpC M q.2 ∧ zInv q.2
def post_X7_firstOtherwise (q : Nat × aZ) (_ : List mV) (M : mM) (v : Int32) (M' : mM) : Prop := v = tFirst (zT q.2.2.1) (q.2.2.2.2 q.1) ∧ M' = M
abbrev t_X7_firstOtherwise : mG → mT := mRi pre_X7_firstOtherwise post_X7_firstOtherwise
theorem mo_X7_firstOtherwise : mMn t_X7_firstOtherwise := mRi_mono
theorem rv_X7_firstOtherwise : mHasR yX7_firstOtherwise 1 t_X7_firstOtherwise := by
  intro g as M P hT hl
  obtain ⟨q, ⟨-, h2, -⟩, -⟩ := hT
  exact ⟨_, _, h2, is_X7 g _ rfl⟩
def k_X7_firstOtherwise : List (Nat × mI) := [(0, .aload_n 0, 1, 0, 0, []),
  (1, .getfield 29, 3, 0, 0, []),
  (4, .getfield 134, 3, 0, 0, []),
  (7, .invokevirtual 156, 3, 0, 0, []),
  (10, .istore_n 2, 1, 2, 0, []),
  (11, .iload_n 2, 1, 2, 0, []),
  (12, .aload_n 1, 1, 1, 0, []),
  (13, .getfield 253, 3, 0, 0, []),
  (16, .invokestatic 369, 3, 0, 0, []),
  (19, .istore_n 3, 1, 3, 0, []),
  (20, .iconst 0, 1, 0, nI 0, []),
  (21, .istore 4, 2, 4, 0, []),
  (23, .iload 4, 2, 4, 0, []),
  (25, .iload_n 3, 1, 3, 0, []),
  (26, .if_icmp .ge 39, 3, 65, 0, []),
  (29, .aload_n 1, 1, 1, 0, []),
  (30, .getfield 268, 3, 0, 0, []),
  (33, .iload 4, 2, 4, 0, []),
  (35, .invokestatic 107, 3, 0, 0, []),
  (38, .aload_n 0, 1, 0, 0, []),
  (39, .getfield 29, 3, 0, 0, []),
  (42, .getfield 134, 3, 0, 0, []),
  (45, .getfield 162, 3, 0, 0, []),
  (48, .iload 4, 2, 4, 0, []),
  (50, .invokestatic 107, 3, 0, 0, []),
  (53, .if_icmp .eq 6, 3, 59, 0, []),
  (56, .iload 4, 2, 4, 0, []),
  (58, .ireturn, 1, 0, 0, []),
  (59, .iinc 4 1, 3, 4, nI 1, []),
  (62, .goto (-39), 3, 23, 0, []),
  (65, .iload_n 2, 1, 2, 0, []),
  (66, .aload_n 1, 1, 1, 0, []),
  (67, .getfield 253, 3, 0, 0, []),
  (70, .if_icmp .ne 7, 3, 77, 0, []),
  (73, .iconst (-1), 1, 0, -1, []),
  (74, .goto 4, 3, 78, 0, []),
  (77, .iload_n 3, 1, 3, 0, []),
  (78, .ireturn, 1, 0, 0, [])]
theorem kk_X7_firstOtherwise : (k_X7_firstOtherwise.all fun e => mChk cX7_firstOtherwise e.1 e.2) = true := by decide +kernel
def l_X7_firstOtherwise : List (Nat × Nat × (mG → mT)) := [(3 * 156, 0 + 1, t_X2_full), (3 * 369 + 1, 2, tMin), (3 * 107 + 1, 2, t_X7_at)]
def f_X7_firstOtherwise (g : mG) : mF := (mLk k_X7_firstOtherwise, mLk fl_RX7, mLk (l_X7_firstOtherwise.map fun e => (e.1, e.2.1, e.2.2 g)), mLk ([] : List (Nat × mV)), mLk ([] : List (Nat × mV)), some .int)
theorem m_X7_firstOtherwise (g : mG) : mMono (f_X7_firstOtherwise g) := mMonoL (g := g) (l := l_X7_firstOtherwise) (List.forall_mem_cons.mpr ⟨mo_X2_full, List.forall_mem_cons.mpr ⟨tMin_mono, List.forall_mem_cons.mpr ⟨mo_X7_at, fun _ h => absurd h List.not_mem_nil⟩⟩⟩) rfl

theorem v_fo_40 (g : mG) (M : mM) (P : mP) 
    (h : ¬ (nI 4) = 0 ∧ ((let v1 : Int32 := if (M 40 2) < ((M 16 7) / (nI 4)) then M 40 2 else (M 16 7) / (nI 4); mRun (mSx g) (f_X7_firstOtherwise g) P (23, [some (.inr (some 0)), some (.inr (some 40)), some (.inl ((M 16 7) / (nI 4))), some (.inl v1), some (.inl (nI 0))], [], M)))) :
    mRun (mSx g) (f_X7_firstOtherwise g) P (0, [some (.inr (some 0)), some (.inr (some 40)), none, none, none], [], M) := mRun.vc (m_X7_firstOtherwise g) [23] 13 h

theorem v_fol_40 (g : mG) (M : mM) (P : mP) (n b i : Int32)
    (h : (b ≤ i → (¬ n = (M 40 2) → P (some (.inl b)) M) ∧ (¬ (¬ n = (M 40 2)) → P (some (.inl (-1))) M)) ∧ (¬ (b ≤ i) → ((aAt (M 41) 40 i) = (aAt (M 22) 8 i) → mRun (mSx g) (f_X7_firstOtherwise g) P (23, [some (.inr (some 0)), some (.inr (some 40)), some (.inl n), some (.inl b), some (.inl (i + (nI 1)))], [], M)) ∧ (¬ ((aAt (M 41) 40 i) = (aAt (M 22) 8 i)) → P (some (.inl i)) M))) :
    mRun (mSx g) (f_X7_firstOtherwise g) P (23, [some (.inr (some 0)), some (.inr (some 40)), some (.inl n), some (.inl b), some (.inl i)], [], M) := mRun.vc (m_X7_firstOtherwise g) [23] 17 h

theorem fo_loop_40 (g : mG) (M : mM) (P : mP) (z : aZ) (hR : RpC M z) (hI : zInv z) (hP : P (some (.inl (tFirst (zT z.2.1) (z.2.2.2 0)))) M) :
    ∀ (j i : Nat), i + j = min (tFull (zT z.2.1)) (z.2.2.2 0).2.1 → fO (fun i => decide ((z.2.2.2 0).2.2 i = nI (tWin (zT z.2.1) i))) j i = fO (fun i => decide ((z.2.2.2 0).2.2 i = nI (tWin (zT z.2.1) i))) (min (tFull (zT z.2.1)) (z.2.2.2 0).2.1) 0 → mRun (mSx g) (f_X7_firstOtherwise g) P (23, [some (.inr (some 0)), some (.inr (some 40)), some (.inl (nI (tFull (zT z.2.1)))), some (.inl (nI (min (tFull (zT z.2.1)) (z.2.2.2 0).2.1))), some (.inl (nI i))], [], M)
  | 0, i, h, e => by
    have hf := tFull_le hI.T
    have hsz := (hI.2.2.2 0 (by decide)).2.1
    have hs2 : M 40 2 = nI (z.2.2.2 0).2.1 := (hR.2.2.2.2.1 0 (by decide)).2.1
    have hv : tFirst (zT z.2.1) (z.2.2.2 0) = if tFull (zT z.2.1) = (z.2.2.2 0).2.1 then -1 else nI (min (tFull (zT z.2.1)) (z.2.2.2 0).2.1) := by
      unfold tFirst
      rw [← e]
      rfl
    rw [hv] at hP
    refine v_fol_40 g M P _ _ _ ⟨fun _ => ?_, fun w => absurd (nI_le (by omega) (by omega)) w⟩
    rw [hs2, nI_eq (by omega) (by omega)]
    refine ⟨fun w => ?_, fun w => ?_⟩
    · rw [if_neg w] at hP
      exact hP
    · rw [if_pos (Classical.not_not.mp w)] at hP
      exact hP
  | j + 1, i, h, e => by
    have hf := tFull_le hI.T
    have hsz := (hI.2.2.2 0 (by decide)).2.1
    refine v_fol_40 g M P _ _ _ ⟨fun w => absurd w (nI_ge (by omega) (by omega)), fun _ => ?_⟩
    have q : aAt (M 41) 40 (nI i) = nI (tWin (zT z.2.1) i) ↔ _ := sh_eq (k := 0) hR hI (by decide) (by omega) (by have := tWin_lt (T := zT z.2.1) i; omega)
    rw [RpC_win hR hI (by omega), q]
    refine ⟨fun w => ?_, fun w => ?_⟩
    · refine (show nI i + nI 1 = nI (i + 1) from nI_add _ _) ▸ fo_loop_40 g M P z hR hI hP j (i + 1) (by omega) ?_
      rw [fO, if_pos (decide_eq_true w)] at e
      exact e
    · rw [fO, if_neg (by rw [decide_eq_true_eq]; exact w)] at e
      have hv : tFirst (zT z.2.1) (z.2.2.2 0) = nI i := by
        unfold tFirst
        rw [← e]
      rw [hv] at hP
      exact hP
theorem fo_run_40 (g : mG) (M : mM) (P : mP) (z : aZ) (hR : RpC M z) (hI : zInv z) (hP : P (some (.inl (tFirst (zT z.2.1) (z.2.2.2 0)))) M) :
    mRun (mSx g) (f_X7_firstOtherwise g) P (0, [some (.inr (some 0)), some (.inr (some 40)), none, none, none], [], M) := by
  have hf := tFull_le hI.T
  have hsz := (hI.2.2.2 0 (by decide)).2.1
  have hs2 : M 40 2 = nI (z.2.2.2 0).2.1 := (hR.2.2.2.2.1 0 (by decide)).2.1
  refine v_fo_40 g M P ⟨n4, ?_⟩
  rw [RpC_full hR hI, hs2, nI_min (by omega) (by omega)]
  exact fo_loop_40 g M P z hR hI hP _ 0 (Nat.zero_add _) rfl
theorem v_fo_42 (g : mG) (M : mM) (P : mP) 
    (h : ¬ (nI 4) = 0 ∧ ((let v1 : Int32 := if (M 42 2) < ((M 16 7) / (nI 4)) then M 42 2 else (M 16 7) / (nI 4); mRun (mSx g) (f_X7_firstOtherwise g) P (23, [some (.inr (some 0)), some (.inr (some 42)), some (.inl ((M 16 7) / (nI 4))), some (.inl v1), some (.inl (nI 0))], [], M)))) :
    mRun (mSx g) (f_X7_firstOtherwise g) P (0, [some (.inr (some 0)), some (.inr (some 42)), none, none, none], [], M) := mRun.vc (m_X7_firstOtherwise g) [23] 13 h

theorem v_fol_42 (g : mG) (M : mM) (P : mP) (n b i : Int32)
    (h : (b ≤ i → (¬ n = (M 42 2) → P (some (.inl b)) M) ∧ (¬ (¬ n = (M 42 2)) → P (some (.inl (-1))) M)) ∧ (¬ (b ≤ i) → ((aAt (M 43) 40 i) = (aAt (M 22) 8 i) → mRun (mSx g) (f_X7_firstOtherwise g) P (23, [some (.inr (some 0)), some (.inr (some 42)), some (.inl n), some (.inl b), some (.inl (i + (nI 1)))], [], M)) ∧ (¬ ((aAt (M 43) 40 i) = (aAt (M 22) 8 i)) → P (some (.inl i)) M))) :
    mRun (mSx g) (f_X7_firstOtherwise g) P (23, [some (.inr (some 0)), some (.inr (some 42)), some (.inl n), some (.inl b), some (.inl i)], [], M) := mRun.vc (m_X7_firstOtherwise g) [23] 17 h

theorem fo_loop_42 (g : mG) (M : mM) (P : mP) (z : aZ) (hR : RpC M z) (hI : zInv z) (hP : P (some (.inl (tFirst (zT z.2.1) (z.2.2.2 1)))) M) :
    ∀ (j i : Nat), i + j = min (tFull (zT z.2.1)) (z.2.2.2 1).2.1 → fO (fun i => decide ((z.2.2.2 1).2.2 i = nI (tWin (zT z.2.1) i))) j i = fO (fun i => decide ((z.2.2.2 1).2.2 i = nI (tWin (zT z.2.1) i))) (min (tFull (zT z.2.1)) (z.2.2.2 1).2.1) 0 → mRun (mSx g) (f_X7_firstOtherwise g) P (23, [some (.inr (some 0)), some (.inr (some 42)), some (.inl (nI (tFull (zT z.2.1)))), some (.inl (nI (min (tFull (zT z.2.1)) (z.2.2.2 1).2.1))), some (.inl (nI i))], [], M)
  | 0, i, h, e => by
    have hf := tFull_le hI.T
    have hsz := (hI.2.2.2 1 (by decide)).2.1
    have hs2 : M 42 2 = nI (z.2.2.2 1).2.1 := (hR.2.2.2.2.1 1 (by decide)).2.1
    have hv : tFirst (zT z.2.1) (z.2.2.2 1) = if tFull (zT z.2.1) = (z.2.2.2 1).2.1 then -1 else nI (min (tFull (zT z.2.1)) (z.2.2.2 1).2.1) := by
      unfold tFirst
      rw [← e]
      rfl
    rw [hv] at hP
    refine v_fol_42 g M P _ _ _ ⟨fun _ => ?_, fun w => absurd (nI_le (by omega) (by omega)) w⟩
    rw [hs2, nI_eq (by omega) (by omega)]
    refine ⟨fun w => ?_, fun w => ?_⟩
    · rw [if_neg w] at hP
      exact hP
    · rw [if_pos (Classical.not_not.mp w)] at hP
      exact hP
  | j + 1, i, h, e => by
    have hf := tFull_le hI.T
    have hsz := (hI.2.2.2 1 (by decide)).2.1
    refine v_fol_42 g M P _ _ _ ⟨fun w => absurd w (nI_ge (by omega) (by omega)), fun _ => ?_⟩
    have q : aAt (M 43) 40 (nI i) = nI (tWin (zT z.2.1) i) ↔ _ := sh_eq (k := 1) hR hI (by decide) (by omega) (by have := tWin_lt (T := zT z.2.1) i; omega)
    rw [RpC_win hR hI (by omega), q]
    refine ⟨fun w => ?_, fun w => ?_⟩
    · refine (show nI i + nI 1 = nI (i + 1) from nI_add _ _) ▸ fo_loop_42 g M P z hR hI hP j (i + 1) (by omega) ?_
      rw [fO, if_pos (decide_eq_true w)] at e
      exact e
    · rw [fO, if_neg (by rw [decide_eq_true_eq]; exact w)] at e
      have hv : tFirst (zT z.2.1) (z.2.2.2 1) = nI i := by
        unfold tFirst
        rw [← e]
      rw [hv] at hP
      exact hP
theorem fo_run_42 (g : mG) (M : mM) (P : mP) (z : aZ) (hR : RpC M z) (hI : zInv z) (hP : P (some (.inl (tFirst (zT z.2.1) (z.2.2.2 1)))) M) :
    mRun (mSx g) (f_X7_firstOtherwise g) P (0, [some (.inr (some 0)), some (.inr (some 42)), none, none, none], [], M) := by
  have hf := tFull_le hI.T
  have hsz := (hI.2.2.2 1 (by decide)).2.1
  have hs2 : M 42 2 = nI (z.2.2.2 1).2.1 := (hR.2.2.2.2.1 1 (by decide)).2.1
  refine v_fo_42 g M P ⟨n4, ?_⟩
  rw [RpC_full hR hI, hs2, nI_min (by omega) (by omega)]
  exact fo_loop_42 g M P z hR hI hP _ 0 (Nat.zero_add _) rfl
theorem v_fo_44 (g : mG) (M : mM) (P : mP) 
    (h : ¬ (nI 4) = 0 ∧ ((let v1 : Int32 := if (M 44 2) < ((M 16 7) / (nI 4)) then M 44 2 else (M 16 7) / (nI 4); mRun (mSx g) (f_X7_firstOtherwise g) P (23, [some (.inr (some 0)), some (.inr (some 44)), some (.inl ((M 16 7) / (nI 4))), some (.inl v1), some (.inl (nI 0))], [], M)))) :
    mRun (mSx g) (f_X7_firstOtherwise g) P (0, [some (.inr (some 0)), some (.inr (some 44)), none, none, none], [], M) := mRun.vc (m_X7_firstOtherwise g) [23] 13 h

theorem v_fol_44 (g : mG) (M : mM) (P : mP) (n b i : Int32)
    (h : (b ≤ i → (¬ n = (M 44 2) → P (some (.inl b)) M) ∧ (¬ (¬ n = (M 44 2)) → P (some (.inl (-1))) M)) ∧ (¬ (b ≤ i) → ((aAt (M 45) 40 i) = (aAt (M 22) 8 i) → mRun (mSx g) (f_X7_firstOtherwise g) P (23, [some (.inr (some 0)), some (.inr (some 44)), some (.inl n), some (.inl b), some (.inl (i + (nI 1)))], [], M)) ∧ (¬ ((aAt (M 45) 40 i) = (aAt (M 22) 8 i)) → P (some (.inl i)) M))) :
    mRun (mSx g) (f_X7_firstOtherwise g) P (23, [some (.inr (some 0)), some (.inr (some 44)), some (.inl n), some (.inl b), some (.inl i)], [], M) := mRun.vc (m_X7_firstOtherwise g) [23] 17 h

theorem fo_loop_44 (g : mG) (M : mM) (P : mP) (z : aZ) (hR : RpC M z) (hI : zInv z) (hP : P (some (.inl (tFirst (zT z.2.1) (z.2.2.2 2)))) M) :
    ∀ (j i : Nat), i + j = min (tFull (zT z.2.1)) (z.2.2.2 2).2.1 → fO (fun i => decide ((z.2.2.2 2).2.2 i = nI (tWin (zT z.2.1) i))) j i = fO (fun i => decide ((z.2.2.2 2).2.2 i = nI (tWin (zT z.2.1) i))) (min (tFull (zT z.2.1)) (z.2.2.2 2).2.1) 0 → mRun (mSx g) (f_X7_firstOtherwise g) P (23, [some (.inr (some 0)), some (.inr (some 44)), some (.inl (nI (tFull (zT z.2.1)))), some (.inl (nI (min (tFull (zT z.2.1)) (z.2.2.2 2).2.1))), some (.inl (nI i))], [], M)
  | 0, i, h, e => by
    have hf := tFull_le hI.T
    have hsz := (hI.2.2.2 2 (by decide)).2.1
    have hs2 : M 44 2 = nI (z.2.2.2 2).2.1 := (hR.2.2.2.2.1 2 (by decide)).2.1
    have hv : tFirst (zT z.2.1) (z.2.2.2 2) = if tFull (zT z.2.1) = (z.2.2.2 2).2.1 then -1 else nI (min (tFull (zT z.2.1)) (z.2.2.2 2).2.1) := by
      unfold tFirst
      rw [← e]
      rfl
    rw [hv] at hP
    refine v_fol_44 g M P _ _ _ ⟨fun _ => ?_, fun w => absurd (nI_le (by omega) (by omega)) w⟩
    rw [hs2, nI_eq (by omega) (by omega)]
    refine ⟨fun w => ?_, fun w => ?_⟩
    · rw [if_neg w] at hP
      exact hP
    · rw [if_pos (Classical.not_not.mp w)] at hP
      exact hP
  | j + 1, i, h, e => by
    have hf := tFull_le hI.T
    have hsz := (hI.2.2.2 2 (by decide)).2.1
    refine v_fol_44 g M P _ _ _ ⟨fun w => absurd w (nI_ge (by omega) (by omega)), fun _ => ?_⟩
    have q : aAt (M 45) 40 (nI i) = nI (tWin (zT z.2.1) i) ↔ _ := sh_eq (k := 2) hR hI (by decide) (by omega) (by have := tWin_lt (T := zT z.2.1) i; omega)
    rw [RpC_win hR hI (by omega), q]
    refine ⟨fun w => ?_, fun w => ?_⟩
    · refine (show nI i + nI 1 = nI (i + 1) from nI_add _ _) ▸ fo_loop_44 g M P z hR hI hP j (i + 1) (by omega) ?_
      rw [fO, if_pos (decide_eq_true w)] at e
      exact e
    · rw [fO, if_neg (by rw [decide_eq_true_eq]; exact w)] at e
      have hv : tFirst (zT z.2.1) (z.2.2.2 2) = nI i := by
        unfold tFirst
        rw [← e]
      rw [hv] at hP
      exact hP
theorem fo_run_44 (g : mG) (M : mM) (P : mP) (z : aZ) (hR : RpC M z) (hI : zInv z) (hP : P (some (.inl (tFirst (zT z.2.1) (z.2.2.2 2)))) M) :
    mRun (mSx g) (f_X7_firstOtherwise g) P (0, [some (.inr (some 0)), some (.inr (some 44)), none, none, none], [], M) := by
  have hf := tFull_le hI.T
  have hsz := (hI.2.2.2 2 (by decide)).2.1
  have hs2 : M 44 2 = nI (z.2.2.2 2).2.1 := (hR.2.2.2.2.1 2 (by decide)).2.1
  refine v_fo_44 g M P ⟨n4, ?_⟩
  rw [RpC_full hR hI, hs2, nI_min (by omega) (by omega)]
  exact fo_loop_44 g M P z hR hI hP _ 0 (Nat.zero_add _) rfl
theorem v_fo_46 (g : mG) (M : mM) (P : mP) 
    (h : ¬ (nI 4) = 0 ∧ ((let v1 : Int32 := if (M 46 2) < ((M 16 7) / (nI 4)) then M 46 2 else (M 16 7) / (nI 4); mRun (mSx g) (f_X7_firstOtherwise g) P (23, [some (.inr (some 0)), some (.inr (some 46)), some (.inl ((M 16 7) / (nI 4))), some (.inl v1), some (.inl (nI 0))], [], M)))) :
    mRun (mSx g) (f_X7_firstOtherwise g) P (0, [some (.inr (some 0)), some (.inr (some 46)), none, none, none], [], M) := mRun.vc (m_X7_firstOtherwise g) [23] 13 h

theorem v_fol_46 (g : mG) (M : mM) (P : mP) (n b i : Int32)
    (h : (b ≤ i → (¬ n = (M 46 2) → P (some (.inl b)) M) ∧ (¬ (¬ n = (M 46 2)) → P (some (.inl (-1))) M)) ∧ (¬ (b ≤ i) → ((aAt (M 47) 40 i) = (aAt (M 22) 8 i) → mRun (mSx g) (f_X7_firstOtherwise g) P (23, [some (.inr (some 0)), some (.inr (some 46)), some (.inl n), some (.inl b), some (.inl (i + (nI 1)))], [], M)) ∧ (¬ ((aAt (M 47) 40 i) = (aAt (M 22) 8 i)) → P (some (.inl i)) M))) :
    mRun (mSx g) (f_X7_firstOtherwise g) P (23, [some (.inr (some 0)), some (.inr (some 46)), some (.inl n), some (.inl b), some (.inl i)], [], M) := mRun.vc (m_X7_firstOtherwise g) [23] 17 h

theorem fo_loop_46 (g : mG) (M : mM) (P : mP) (z : aZ) (hR : RpC M z) (hI : zInv z) (hP : P (some (.inl (tFirst (zT z.2.1) (z.2.2.2 3)))) M) :
    ∀ (j i : Nat), i + j = min (tFull (zT z.2.1)) (z.2.2.2 3).2.1 → fO (fun i => decide ((z.2.2.2 3).2.2 i = nI (tWin (zT z.2.1) i))) j i = fO (fun i => decide ((z.2.2.2 3).2.2 i = nI (tWin (zT z.2.1) i))) (min (tFull (zT z.2.1)) (z.2.2.2 3).2.1) 0 → mRun (mSx g) (f_X7_firstOtherwise g) P (23, [some (.inr (some 0)), some (.inr (some 46)), some (.inl (nI (tFull (zT z.2.1)))), some (.inl (nI (min (tFull (zT z.2.1)) (z.2.2.2 3).2.1))), some (.inl (nI i))], [], M)
  | 0, i, h, e => by
    have hf := tFull_le hI.T
    have hsz := (hI.2.2.2 3 (by decide)).2.1
    have hs2 : M 46 2 = nI (z.2.2.2 3).2.1 := (hR.2.2.2.2.1 3 (by decide)).2.1
    have hv : tFirst (zT z.2.1) (z.2.2.2 3) = if tFull (zT z.2.1) = (z.2.2.2 3).2.1 then -1 else nI (min (tFull (zT z.2.1)) (z.2.2.2 3).2.1) := by
      unfold tFirst
      rw [← e]
      rfl
    rw [hv] at hP
    refine v_fol_46 g M P _ _ _ ⟨fun _ => ?_, fun w => absurd (nI_le (by omega) (by omega)) w⟩
    rw [hs2, nI_eq (by omega) (by omega)]
    refine ⟨fun w => ?_, fun w => ?_⟩
    · rw [if_neg w] at hP
      exact hP
    · rw [if_pos (Classical.not_not.mp w)] at hP
      exact hP
  | j + 1, i, h, e => by
    have hf := tFull_le hI.T
    have hsz := (hI.2.2.2 3 (by decide)).2.1
    refine v_fol_46 g M P _ _ _ ⟨fun w => absurd w (nI_ge (by omega) (by omega)), fun _ => ?_⟩
    have q : aAt (M 47) 40 (nI i) = nI (tWin (zT z.2.1) i) ↔ _ := sh_eq (k := 3) hR hI (by decide) (by omega) (by have := tWin_lt (T := zT z.2.1) i; omega)
    rw [RpC_win hR hI (by omega), q]
    refine ⟨fun w => ?_, fun w => ?_⟩
    · refine (show nI i + nI 1 = nI (i + 1) from nI_add _ _) ▸ fo_loop_46 g M P z hR hI hP j (i + 1) (by omega) ?_
      rw [fO, if_pos (decide_eq_true w)] at e
      exact e
    · rw [fO, if_neg (by rw [decide_eq_true_eq]; exact w)] at e
      have hv : tFirst (zT z.2.1) (z.2.2.2 3) = nI i := by
        unfold tFirst
        rw [← e]
      rw [hv] at hP
      exact hP
theorem fo_run_46 (g : mG) (M : mM) (P : mP) (z : aZ) (hR : RpC M z) (hI : zInv z) (hP : P (some (.inl (tFirst (zT z.2.1) (z.2.2.2 3)))) M) :
    mRun (mSx g) (f_X7_firstOtherwise g) P (0, [some (.inr (some 0)), some (.inr (some 46)), none, none, none], [], M) := by
  have hf := tFull_le hI.T
  have hsz := (hI.2.2.2 3 (by decide)).2.1
  have hs2 : M 46 2 = nI (z.2.2.2 3).2.1 := (hR.2.2.2.2.1 3 (by decide)).2.1
  refine v_fo_46 g M P ⟨n4, ?_⟩
  rw [RpC_full hR hI, hs2, nI_min (by omega) (by omega)]
  exact fo_loop_46 g M P z hR hI hP _ 0 (Nat.zero_add _) rfl
theorem run_X7_firstOtherwise : mRunOf 5 t_X7_firstOtherwise f_X7_firstOtherwise := fun g as M P hT => by
  obtain ⟨⟨k, z⟩, ⟨h1, rfl, h3, h4⟩, hP⟩ := hT
  refine ⟨Nat.le_of_ble_eq_true rfl, ?_⟩
  dsimp only at h1 h3 h4
  have hP' := hP _ _ ⟨rfl, rfl⟩
  rcases (by omega : k = 0 ∨ k = 1 ∨ k = 2 ∨ k = 3) with rfl | rfl | rfl | rfl
  · exact fo_run_40 g M P z h3 h4 hP'
  · exact fo_run_42 g M P z h3 h4 hP'
  · exact fo_run_44 g M P z h3 h4 hP'
  · exact fo_run_46 g M P z h3 h4 hP'
theorem ok_X7_firstOtherwise : mOK yX7_firstOtherwise cX7_firstOtherwise 5 (some .int) 2 t_X7_firstOtherwise := mOK.of f_X7_firstOtherwise (by decide) (fun _ => rfl) (fun g => mCodeOK kk_X7_firstOtherwise) (fun g => mFldL fk_RX7 rfl) (fun g idx v h => by cases h) (fun g idx v h => by cases h) (mCalL (l := l_X7_firstOtherwise) (List.forall_mem_cons.mpr ⟨mSite.V (idx := 156) ok_X2_full (by decide) (by decide) rv_X2_full wc_X2_full wk_RX7_156 wi_X2_full wl_X2_full wn_RX2 wd_X2_full, List.forall_mem_cons.mpr ⟨mSite.min (idx := 369) (by decide) wc_J9_min_7cf53 wk_RX7_369 wt_J9_min_7cf53 wn_RJ9, List.forall_mem_cons.mpr ⟨mSite.S (idx := 107) ok_X7_at (by decide) (by decide) wc_X7_at wk_RX7_107 wt_X7_at wn_RX7 wd_X7_at, fun _ h => absurd h List.not_mem_nil⟩⟩⟩) (fun _ => rfl)) run_X7_firstOtherwise

def pre_X7_wouldBeSo (q : Nat × aZ × Int32 × Nat) (as : List mV) (M : mM) : Prop := q.1 < 4 ∧ as = [.inr (some 0), .inr (some (40 + 2 * q.1)), .inl q.2.2.1, .inl (nI q.2.2.2)] ∧ RpC M q.2.1 ∧ zInv q.2.1 ∧ q.2.2.2 < 4
def post_X7_wouldBeSo (q : Nat × aZ × Int32 × Nat) (_ : List mV) (M : mM) (v : Int32) (M' : mM) : Prop := v = mb (dSo (zT q.2.1.2.1) (q.2.1.2.2.2 q.1) q.2.2.1 q.2.2.2 = true) ∧ M' = M
abbrev t_X7_wouldBeSo : mG → mT := mRi pre_X7_wouldBeSo post_X7_wouldBeSo
theorem mo_X7_wouldBeSo : mMn t_X7_wouldBeSo := mRi_mono
theorem rv_X7_wouldBeSo : mHasR yX7_wouldBeSo 3 t_X7_wouldBeSo := by
  intro g as M P hT hl
  obtain ⟨q, ⟨-, h2, -⟩, -⟩ := hT
  exact ⟨_, _, h2, is_X7 g _ rfl⟩
theorem RpC_wo {M : mM} {z : aZ} (hR : RpC M z) (hI : zInv z) {i h : Nat} (t : Int32) (hi : i < tFull (zT z.2.1)) (hh : h < 4) : pre_X2_winnerOf (16, i, t, h, (zT z.2.1).2.2.1.2.2.2.2, aLd (zT z.2.1).2.2.1.1 (zT z.2.1).2.2.1.2.2.2.2 i) [.inr (some 16), .inl (nI i), .inl t, .inl (nI h)] M := by
  have hf := tFull_le hI.T
  have hi' : 4 * i + 4 ≤ (zT z.2.1).2.2.1.2.2.2.2.length := by unfold tFull at hi; omega
  have hok : aOkS (zT z.2.1).2.2.1 := by
    rcases hI.T.2.2.2.2.1 with h | h
    · rw [h] at hi'
      exact absurd hi' (by rw [List.length_nil]; omega)
    · exact h
  have hp := hR.2.2.2.1.2.2.1
  refine ⟨rfl, rfl, by show i < 8; omega, hh, hi', aLd_lt hok.2.1 i, fun j hj => ⟨?_, aOk.lt hok _ (aC_in (show 4 * i + j < (zT z.2.1).2.2.1.2.2.2.2.length by omega))⟩, ?_⟩
  · exact hp.2.1 _ (show 4 * i + j < (zT z.2.1).2.2.1.2.2.2.2.length by omega)
  · exact hp.2.2.2.2.1 i (by omega)
def k_X7_wouldBeSo : List (Nat × mI) := [(0, .aload_n 1, 1, 1, 0, []),
  (1, .getfield 253, 3, 0, 0, []),
  (4, .aload_n 0, 1, 0, 0, []),
  (5, .getfield 29, 3, 0, 0, []),
  (8, .getfield 134, 3, 0, 0, []),
  (11, .invokevirtual 156, 3, 0, 0, []),
  (14, .if_icmp .eq 5, 3, 19, 0, []),
  (17, .iconst 0, 1, 0, nI 0, []),
  (18, .ireturn, 1, 0, 0, []),
  (19, .iconst 0, 1, 0, nI 0, []),
  (20, .istore 4, 2, 4, 0, []),
  (22, .iload 4, 2, 4, 0, []),
  (24, .aload_n 1, 1, 1, 0, []),
  (25, .getfield 253, 3, 0, 0, []),
  (28, .if_icmp .ge 37, 3, 65, 0, []),
  (31, .aload_n 1, 1, 1, 0, []),
  (32, .getfield 268, 3, 0, 0, []),
  (35, .iload 4, 2, 4, 0, []),
  (37, .invokestatic 107, 3, 0, 0, []),
  (40, .aload_n 0, 1, 0, 0, []),
  (41, .getfield 29, 3, 0, 0, []),
  (44, .getfield 134, 3, 0, 0, []),
  (47, .iload 4, 2, 4, 0, []),
  (49, .iload_n 2, 1, 2, 0, []),
  (50, .iload_n 3, 1, 3, 0, []),
  (51, .invokevirtual 385, 3, 0, 0, []),
  (54, .if_icmp .eq 5, 3, 59, 0, []),
  (57, .iconst 0, 1, 0, nI 0, []),
  (58, .ireturn, 1, 0, 0, []),
  (59, .iinc 4 1, 3, 4, nI 1, []),
  (62, .goto (-40), 3, 22, 0, []),
  (65, .iconst 1, 1, 0, nI 1, []),
  (66, .ireturn, 1, 0, 0, [])]
theorem kk_X7_wouldBeSo : (k_X7_wouldBeSo.all fun e => mChk cX7_wouldBeSo e.1 e.2) = true := by decide +kernel
def l_X7_wouldBeSo : List (Nat × Nat × (mG → mT)) := [(3 * 156, 0 + 1, t_X2_full), (3 * 107 + 1, 2, t_X7_at), (3 * 385, 3 + 1, t_X2_winnerOf)]
def f_X7_wouldBeSo (g : mG) : mF := (mLk k_X7_wouldBeSo, mLk fl_RX7, mLk (l_X7_wouldBeSo.map fun e => (e.1, e.2.1, e.2.2 g)), mLk ([] : List (Nat × mV)), mLk ([] : List (Nat × mV)), some .boolean)
theorem m_X7_wouldBeSo (g : mG) : mMono (f_X7_wouldBeSo g) := mMonoL (g := g) (l := l_X7_wouldBeSo) (List.forall_mem_cons.mpr ⟨mo_X2_full, List.forall_mem_cons.mpr ⟨mo_X7_at, List.forall_mem_cons.mpr ⟨mo_X2_winnerOf, fun _ h => absurd h List.not_mem_nil⟩⟩⟩) rfl

theorem v_ws_40 (g : mG) (M : mM) (P : mP) (t y : Int32)
    (h : ¬ (nI 4) = 0 ∧ ((((M 40 2) = ((M 16 7) / (nI 4)) → mRun (mSx g) (f_X7_wouldBeSo g) P (22, [some (.inr (some 0)), some (.inr (some 40)), some (.inl t), some (.inl y), some (.inl (nI 0))], [], M)) ∧ (¬ ((M 40 2) = ((M 16 7) / (nI 4))) → ((nI 0) = 0 ∨ (nI 0) = 1) ∧ P (some (.inl (nI 0))) M)))) :
    mRun (mSx g) (f_X7_wouldBeSo g) P (0, [some (.inr (some 0)), some (.inr (some 40)), some (.inl t), some (.inl y), none], [], M) := mRun.vc (m_X7_wouldBeSo g) [22] 10 h

theorem v_wsl_40 (g : mG) (M : mM) (P : mP) (t y i : Int32)
    (h : ((M 40 2) ≤ i → ((nI 1) = 0 ∨ (nI 1) = 1) ∧ P (some (.inl (nI 1))) M) ∧ (¬ ((M 40 2) ≤ i) → ∃ x2 : Nat × Nat × Int32 × Nat × List Nat × Nat, pre_X2_winnerOf x2 [.inr (some 16), .inl i, .inl t, .inl y] M ∧ ∀ (r4 : Int32) (M3 : mM), post_X2_winnerOf x2 [.inr (some 16), .inl i, .inl t, .inl y] M r4 M3 → (((aAt (M 41) 40 i) = r4 → mRun (mSx g) (f_X7_wouldBeSo g) P (22, [some (.inr (some 0)), some (.inr (some 40)), some (.inl t), some (.inl y), some (.inl (i + (nI 1)))], [], M3)) ∧ (¬ ((aAt (M 41) 40 i) = r4) → ((nI 0) = 0 ∨ (nI 0) = 1) ∧ P (some (.inl (nI 0))) M3)))) :
    mRun (mSx g) (f_X7_wouldBeSo g) P (22, [some (.inr (some 0)), some (.inr (some 40)), some (.inl t), some (.inl y), some (.inl i)], [], M) := mRun.vc (m_X7_wouldBeSo g) [22] 19 h

theorem ws_loop_40 (g : mG) (M : mM) (P : mP) (z : aZ) (t : Int32) (h : Nat) (hh : h < 4) (hR : RpC M z) (hI : zInv z) (hsz : (z.2.2.2 0).2.1 = tFull (zT z.2.1)) (hP : P (some (.inl (mb (dSo (zT z.2.1) (z.2.2.2 0) t h = true)))) M) :
    ∀ (j i : Nat), i + j = tFull (zT z.2.1) → fA (fun i => decide ((z.2.2.2 0).2.2 i = nI (tWo (zT z.2.1) t h i))) j i = fA (fun i => decide ((z.2.2.2 0).2.2 i = nI (tWo (zT z.2.1) t h i))) (tFull (zT z.2.1)) 0 → mRun (mSx g) (f_X7_wouldBeSo g) P (22, [some (.inr (some 0)), some (.inr (some 40)), some (.inl t), some (.inl (nI h)), some (.inl (nI i))], [], M)
  | 0, i, hj, e => by
    have hf := tFull_le hI.T
    have hs2 : M 40 2 = nI (z.2.2.2 0).2.1 := (hR.2.2.2.2.1 0 (by decide)).2.1
    rw [mb_t (by unfold dSo; rw [← e, hsz]; simp [fA])] at hP
    refine v_wsl_40 g M P _ _ _ ?_
    rw [hs2, hsz]
    exact ⟨fun _ => ⟨Or.inr rfl, hP⟩, fun w => absurd (nI_le (by omega) (by omega)) w⟩
  | j + 1, i, hj, e => by
    have hf := tFull_le hI.T
    have hs2 : M 40 2 = nI (z.2.2.2 0).2.1 := (hR.2.2.2.2.1 0 (by decide)).2.1
    refine v_wsl_40 g M P _ _ _ ?_
    rw [hs2, hsz]
    refine ⟨fun w => absurd w (nI_ge (by omega) (by omega)), fun _ => ⟨_, RpC_wo hR hI t (i := i) (h := h) (by omega) hh, fun r M2 hr => ?_⟩⟩
    obtain ⟨hr1, rfl⟩ := hr
    have hr2 : r = nI (tWo (zT z.2.1) t h i) := hr1
    have hw4 : tWo (zT z.2.1) t h i < 4 := Nat.mod_lt _ (by decide)
    have q : aAt (M2 41) 40 (nI i) = nI (tWo (zT z.2.1) t h i) ↔ _ := sh_eq (k := 0) hR hI (by decide) (by omega) (by omega)
    rw [hr2, q]
    refine ⟨fun w => ?_, fun w => ?_⟩
    · refine (show nI i + nI 1 = nI (i + 1) from nI_add _ _) ▸ ws_loop_40 g M2 P z t h hh hR hI hsz hP j (i + 1) (by omega) ?_
      rw [fA, decide_eq_true w, Bool.true_and] at e
      exact e
    · rw [fA, decide_eq_false w, Bool.false_and] at e
      rw [mb_f (by unfold dSo; rw [← e, Bool.and_false]; decide)] at hP
      exact ⟨Or.inl rfl, hP⟩
theorem ws_run_40 (g : mG) (M : mM) (P : mP) (z : aZ) (t : Int32) (h : Nat) (hh : h < 4) (hR : RpC M z) (hI : zInv z) (hP : P (some (.inl (mb (dSo (zT z.2.1) (z.2.2.2 0) t h = true)))) M) :
    mRun (mSx g) (f_X7_wouldBeSo g) P (0, [some (.inr (some 0)), some (.inr (some 40)), some (.inl t), some (.inl (nI h)), none], [], M) := by
  have hf := tFull_le hI.T
  have hsz := (hI.2.2.2 0 (by decide)).2.1
  have hs2 : M 40 2 = nI (z.2.2.2 0).2.1 := (hR.2.2.2.2.1 0 (by decide)).2.1
  refine v_ws_40 g M P _ _ ⟨n4, ?_⟩
  rw [RpC_full hR hI, hs2, nI_eq (by omega) (by omega)]
  refine ⟨fun w => ?_, fun w => ?_⟩
  · exact ws_loop_40 g M P z t h hh hR hI w hP _ 0 (Nat.zero_add _) rfl
  · rw [mb_f (by unfold dSo; rw [decide_eq_false w, Bool.false_and]; decide)] at hP
    exact ⟨Or.inl rfl, hP⟩
theorem v_ws_42 (g : mG) (M : mM) (P : mP) (t y : Int32)
    (h : ¬ (nI 4) = 0 ∧ ((((M 42 2) = ((M 16 7) / (nI 4)) → mRun (mSx g) (f_X7_wouldBeSo g) P (22, [some (.inr (some 0)), some (.inr (some 42)), some (.inl t), some (.inl y), some (.inl (nI 0))], [], M)) ∧ (¬ ((M 42 2) = ((M 16 7) / (nI 4))) → ((nI 0) = 0 ∨ (nI 0) = 1) ∧ P (some (.inl (nI 0))) M)))) :
    mRun (mSx g) (f_X7_wouldBeSo g) P (0, [some (.inr (some 0)), some (.inr (some 42)), some (.inl t), some (.inl y), none], [], M) := mRun.vc (m_X7_wouldBeSo g) [22] 10 h

theorem v_wsl_42 (g : mG) (M : mM) (P : mP) (t y i : Int32)
    (h : ((M 42 2) ≤ i → ((nI 1) = 0 ∨ (nI 1) = 1) ∧ P (some (.inl (nI 1))) M) ∧ (¬ ((M 42 2) ≤ i) → ∃ x2 : Nat × Nat × Int32 × Nat × List Nat × Nat, pre_X2_winnerOf x2 [.inr (some 16), .inl i, .inl t, .inl y] M ∧ ∀ (r4 : Int32) (M3 : mM), post_X2_winnerOf x2 [.inr (some 16), .inl i, .inl t, .inl y] M r4 M3 → (((aAt (M 43) 40 i) = r4 → mRun (mSx g) (f_X7_wouldBeSo g) P (22, [some (.inr (some 0)), some (.inr (some 42)), some (.inl t), some (.inl y), some (.inl (i + (nI 1)))], [], M3)) ∧ (¬ ((aAt (M 43) 40 i) = r4) → ((nI 0) = 0 ∨ (nI 0) = 1) ∧ P (some (.inl (nI 0))) M3)))) :
    mRun (mSx g) (f_X7_wouldBeSo g) P (22, [some (.inr (some 0)), some (.inr (some 42)), some (.inl t), some (.inl y), some (.inl i)], [], M) := mRun.vc (m_X7_wouldBeSo g) [22] 19 h

theorem ws_loop_42 (g : mG) (M : mM) (P : mP) (z : aZ) (t : Int32) (h : Nat) (hh : h < 4) (hR : RpC M z) (hI : zInv z) (hsz : (z.2.2.2 1).2.1 = tFull (zT z.2.1)) (hP : P (some (.inl (mb (dSo (zT z.2.1) (z.2.2.2 1) t h = true)))) M) :
    ∀ (j i : Nat), i + j = tFull (zT z.2.1) → fA (fun i => decide ((z.2.2.2 1).2.2 i = nI (tWo (zT z.2.1) t h i))) j i = fA (fun i => decide ((z.2.2.2 1).2.2 i = nI (tWo (zT z.2.1) t h i))) (tFull (zT z.2.1)) 0 → mRun (mSx g) (f_X7_wouldBeSo g) P (22, [some (.inr (some 0)), some (.inr (some 42)), some (.inl t), some (.inl (nI h)), some (.inl (nI i))], [], M)
  | 0, i, hj, e => by
    have hf := tFull_le hI.T
    have hs2 : M 42 2 = nI (z.2.2.2 1).2.1 := (hR.2.2.2.2.1 1 (by decide)).2.1
    rw [mb_t (by unfold dSo; rw [← e, hsz]; simp [fA])] at hP
    refine v_wsl_42 g M P _ _ _ ?_
    rw [hs2, hsz]
    exact ⟨fun _ => ⟨Or.inr rfl, hP⟩, fun w => absurd (nI_le (by omega) (by omega)) w⟩
  | j + 1, i, hj, e => by
    have hf := tFull_le hI.T
    have hs2 : M 42 2 = nI (z.2.2.2 1).2.1 := (hR.2.2.2.2.1 1 (by decide)).2.1
    refine v_wsl_42 g M P _ _ _ ?_
    rw [hs2, hsz]
    refine ⟨fun w => absurd w (nI_ge (by omega) (by omega)), fun _ => ⟨_, RpC_wo hR hI t (i := i) (h := h) (by omega) hh, fun r M2 hr => ?_⟩⟩
    obtain ⟨hr1, rfl⟩ := hr
    have hr2 : r = nI (tWo (zT z.2.1) t h i) := hr1
    have hw4 : tWo (zT z.2.1) t h i < 4 := Nat.mod_lt _ (by decide)
    have q : aAt (M2 43) 40 (nI i) = nI (tWo (zT z.2.1) t h i) ↔ _ := sh_eq (k := 1) hR hI (by decide) (by omega) (by omega)
    rw [hr2, q]
    refine ⟨fun w => ?_, fun w => ?_⟩
    · refine (show nI i + nI 1 = nI (i + 1) from nI_add _ _) ▸ ws_loop_42 g M2 P z t h hh hR hI hsz hP j (i + 1) (by omega) ?_
      rw [fA, decide_eq_true w, Bool.true_and] at e
      exact e
    · rw [fA, decide_eq_false w, Bool.false_and] at e
      rw [mb_f (by unfold dSo; rw [← e, Bool.and_false]; decide)] at hP
      exact ⟨Or.inl rfl, hP⟩
theorem ws_run_42 (g : mG) (M : mM) (P : mP) (z : aZ) (t : Int32) (h : Nat) (hh : h < 4) (hR : RpC M z) (hI : zInv z) (hP : P (some (.inl (mb (dSo (zT z.2.1) (z.2.2.2 1) t h = true)))) M) :
    mRun (mSx g) (f_X7_wouldBeSo g) P (0, [some (.inr (some 0)), some (.inr (some 42)), some (.inl t), some (.inl (nI h)), none], [], M) := by
  have hf := tFull_le hI.T
  have hsz := (hI.2.2.2 1 (by decide)).2.1
  have hs2 : M 42 2 = nI (z.2.2.2 1).2.1 := (hR.2.2.2.2.1 1 (by decide)).2.1
  refine v_ws_42 g M P _ _ ⟨n4, ?_⟩
  rw [RpC_full hR hI, hs2, nI_eq (by omega) (by omega)]
  refine ⟨fun w => ?_, fun w => ?_⟩
  · exact ws_loop_42 g M P z t h hh hR hI w hP _ 0 (Nat.zero_add _) rfl
  · rw [mb_f (by unfold dSo; rw [decide_eq_false w, Bool.false_and]; decide)] at hP
    exact ⟨Or.inl rfl, hP⟩
theorem v_ws_44 (g : mG) (M : mM) (P : mP) (t y : Int32)
    (h : ¬ (nI 4) = 0 ∧ ((((M 44 2) = ((M 16 7) / (nI 4)) → mRun (mSx g) (f_X7_wouldBeSo g) P (22, [some (.inr (some 0)), some (.inr (some 44)), some (.inl t), some (.inl y), some (.inl (nI 0))], [], M)) ∧ (¬ ((M 44 2) = ((M 16 7) / (nI 4))) → ((nI 0) = 0 ∨ (nI 0) = 1) ∧ P (some (.inl (nI 0))) M)))) :
    mRun (mSx g) (f_X7_wouldBeSo g) P (0, [some (.inr (some 0)), some (.inr (some 44)), some (.inl t), some (.inl y), none], [], M) := mRun.vc (m_X7_wouldBeSo g) [22] 10 h

theorem v_wsl_44 (g : mG) (M : mM) (P : mP) (t y i : Int32)
    (h : ((M 44 2) ≤ i → ((nI 1) = 0 ∨ (nI 1) = 1) ∧ P (some (.inl (nI 1))) M) ∧ (¬ ((M 44 2) ≤ i) → ∃ x2 : Nat × Nat × Int32 × Nat × List Nat × Nat, pre_X2_winnerOf x2 [.inr (some 16), .inl i, .inl t, .inl y] M ∧ ∀ (r4 : Int32) (M3 : mM), post_X2_winnerOf x2 [.inr (some 16), .inl i, .inl t, .inl y] M r4 M3 → (((aAt (M 45) 40 i) = r4 → mRun (mSx g) (f_X7_wouldBeSo g) P (22, [some (.inr (some 0)), some (.inr (some 44)), some (.inl t), some (.inl y), some (.inl (i + (nI 1)))], [], M3)) ∧ (¬ ((aAt (M 45) 40 i) = r4) → ((nI 0) = 0 ∨ (nI 0) = 1) ∧ P (some (.inl (nI 0))) M3)))) :
    mRun (mSx g) (f_X7_wouldBeSo g) P (22, [some (.inr (some 0)), some (.inr (some 44)), some (.inl t), some (.inl y), some (.inl i)], [], M) := mRun.vc (m_X7_wouldBeSo g) [22] 19 h

theorem ws_loop_44 (g : mG) (M : mM) (P : mP) (z : aZ) (t : Int32) (h : Nat) (hh : h < 4) (hR : RpC M z) (hI : zInv z) (hsz : (z.2.2.2 2).2.1 = tFull (zT z.2.1)) (hP : P (some (.inl (mb (dSo (zT z.2.1) (z.2.2.2 2) t h = true)))) M) :
    ∀ (j i : Nat), i + j = tFull (zT z.2.1) → fA (fun i => decide ((z.2.2.2 2).2.2 i = nI (tWo (zT z.2.1) t h i))) j i = fA (fun i => decide ((z.2.2.2 2).2.2 i = nI (tWo (zT z.2.1) t h i))) (tFull (zT z.2.1)) 0 → mRun (mSx g) (f_X7_wouldBeSo g) P (22, [some (.inr (some 0)), some (.inr (some 44)), some (.inl t), some (.inl (nI h)), some (.inl (nI i))], [], M)
  | 0, i, hj, e => by
    have hf := tFull_le hI.T
    have hs2 : M 44 2 = nI (z.2.2.2 2).2.1 := (hR.2.2.2.2.1 2 (by decide)).2.1
    rw [mb_t (by unfold dSo; rw [← e, hsz]; simp [fA])] at hP
    refine v_wsl_44 g M P _ _ _ ?_
    rw [hs2, hsz]
    exact ⟨fun _ => ⟨Or.inr rfl, hP⟩, fun w => absurd (nI_le (by omega) (by omega)) w⟩
  | j + 1, i, hj, e => by
    have hf := tFull_le hI.T
    have hs2 : M 44 2 = nI (z.2.2.2 2).2.1 := (hR.2.2.2.2.1 2 (by decide)).2.1
    refine v_wsl_44 g M P _ _ _ ?_
    rw [hs2, hsz]
    refine ⟨fun w => absurd w (nI_ge (by omega) (by omega)), fun _ => ⟨_, RpC_wo hR hI t (i := i) (h := h) (by omega) hh, fun r M2 hr => ?_⟩⟩
    obtain ⟨hr1, rfl⟩ := hr
    have hr2 : r = nI (tWo (zT z.2.1) t h i) := hr1
    have hw4 : tWo (zT z.2.1) t h i < 4 := Nat.mod_lt _ (by decide)
    have q : aAt (M2 45) 40 (nI i) = nI (tWo (zT z.2.1) t h i) ↔ _ := sh_eq (k := 2) hR hI (by decide) (by omega) (by omega)
    rw [hr2, q]
    refine ⟨fun w => ?_, fun w => ?_⟩
    · refine (show nI i + nI 1 = nI (i + 1) from nI_add _ _) ▸ ws_loop_44 g M2 P z t h hh hR hI hsz hP j (i + 1) (by omega) ?_
      rw [fA, decide_eq_true w, Bool.true_and] at e
      exact e
    · rw [fA, decide_eq_false w, Bool.false_and] at e
      rw [mb_f (by unfold dSo; rw [← e, Bool.and_false]; decide)] at hP
      exact ⟨Or.inl rfl, hP⟩
theorem ws_run_44 (g : mG) (M : mM) (P : mP) (z : aZ) (t : Int32) (h : Nat) (hh : h < 4) (hR : RpC M z) (hI : zInv z) (hP : P (some (.inl (mb (dSo (zT z.2.1) (z.2.2.2 2) t h = true)))) M) :
    mRun (mSx g) (f_X7_wouldBeSo g) P (0, [some (.inr (some 0)), some (.inr (some 44)), some (.inl t), some (.inl (nI h)), none], [], M) := by
  have hf := tFull_le hI.T
  have hsz := (hI.2.2.2 2 (by decide)).2.1
  have hs2 : M 44 2 = nI (z.2.2.2 2).2.1 := (hR.2.2.2.2.1 2 (by decide)).2.1
  refine v_ws_44 g M P _ _ ⟨n4, ?_⟩
  rw [RpC_full hR hI, hs2, nI_eq (by omega) (by omega)]
  refine ⟨fun w => ?_, fun w => ?_⟩
  · exact ws_loop_44 g M P z t h hh hR hI w hP _ 0 (Nat.zero_add _) rfl
  · rw [mb_f (by unfold dSo; rw [decide_eq_false w, Bool.false_and]; decide)] at hP
    exact ⟨Or.inl rfl, hP⟩
theorem v_ws_46 (g : mG) (M : mM) (P : mP) (t y : Int32)
    (h : ¬ (nI 4) = 0 ∧ ((((M 46 2) = ((M 16 7) / (nI 4)) → mRun (mSx g) (f_X7_wouldBeSo g) P (22, [some (.inr (some 0)), some (.inr (some 46)), some (.inl t), some (.inl y), some (.inl (nI 0))], [], M)) ∧ (¬ ((M 46 2) = ((M 16 7) / (nI 4))) → ((nI 0) = 0 ∨ (nI 0) = 1) ∧ P (some (.inl (nI 0))) M)))) :
    mRun (mSx g) (f_X7_wouldBeSo g) P (0, [some (.inr (some 0)), some (.inr (some 46)), some (.inl t), some (.inl y), none], [], M) := mRun.vc (m_X7_wouldBeSo g) [22] 10 h

theorem v_wsl_46 (g : mG) (M : mM) (P : mP) (t y i : Int32)
    (h : ((M 46 2) ≤ i → ((nI 1) = 0 ∨ (nI 1) = 1) ∧ P (some (.inl (nI 1))) M) ∧ (¬ ((M 46 2) ≤ i) → ∃ x2 : Nat × Nat × Int32 × Nat × List Nat × Nat, pre_X2_winnerOf x2 [.inr (some 16), .inl i, .inl t, .inl y] M ∧ ∀ (r4 : Int32) (M3 : mM), post_X2_winnerOf x2 [.inr (some 16), .inl i, .inl t, .inl y] M r4 M3 → (((aAt (M 47) 40 i) = r4 → mRun (mSx g) (f_X7_wouldBeSo g) P (22, [some (.inr (some 0)), some (.inr (some 46)), some (.inl t), some (.inl y), some (.inl (i + (nI 1)))], [], M3)) ∧ (¬ ((aAt (M 47) 40 i) = r4) → ((nI 0) = 0 ∨ (nI 0) = 1) ∧ P (some (.inl (nI 0))) M3)))) :
    mRun (mSx g) (f_X7_wouldBeSo g) P (22, [some (.inr (some 0)), some (.inr (some 46)), some (.inl t), some (.inl y), some (.inl i)], [], M) := mRun.vc (m_X7_wouldBeSo g) [22] 19 h

theorem ws_loop_46 (g : mG) (M : mM) (P : mP) (z : aZ) (t : Int32) (h : Nat) (hh : h < 4) (hR : RpC M z) (hI : zInv z) (hsz : (z.2.2.2 3).2.1 = tFull (zT z.2.1)) (hP : P (some (.inl (mb (dSo (zT z.2.1) (z.2.2.2 3) t h = true)))) M) :
    ∀ (j i : Nat), i + j = tFull (zT z.2.1) → fA (fun i => decide ((z.2.2.2 3).2.2 i = nI (tWo (zT z.2.1) t h i))) j i = fA (fun i => decide ((z.2.2.2 3).2.2 i = nI (tWo (zT z.2.1) t h i))) (tFull (zT z.2.1)) 0 → mRun (mSx g) (f_X7_wouldBeSo g) P (22, [some (.inr (some 0)), some (.inr (some 46)), some (.inl t), some (.inl (nI h)), some (.inl (nI i))], [], M)
  | 0, i, hj, e => by
    have hf := tFull_le hI.T
    have hs2 : M 46 2 = nI (z.2.2.2 3).2.1 := (hR.2.2.2.2.1 3 (by decide)).2.1
    rw [mb_t (by unfold dSo; rw [← e, hsz]; simp [fA])] at hP
    refine v_wsl_46 g M P _ _ _ ?_
    rw [hs2, hsz]
    exact ⟨fun _ => ⟨Or.inr rfl, hP⟩, fun w => absurd (nI_le (by omega) (by omega)) w⟩
  | j + 1, i, hj, e => by
    have hf := tFull_le hI.T
    have hs2 : M 46 2 = nI (z.2.2.2 3).2.1 := (hR.2.2.2.2.1 3 (by decide)).2.1
    refine v_wsl_46 g M P _ _ _ ?_
    rw [hs2, hsz]
    refine ⟨fun w => absurd w (nI_ge (by omega) (by omega)), fun _ => ⟨_, RpC_wo hR hI t (i := i) (h := h) (by omega) hh, fun r M2 hr => ?_⟩⟩
    obtain ⟨hr1, rfl⟩ := hr
    have hr2 : r = nI (tWo (zT z.2.1) t h i) := hr1
    have hw4 : tWo (zT z.2.1) t h i < 4 := Nat.mod_lt _ (by decide)
    have q : aAt (M2 47) 40 (nI i) = nI (tWo (zT z.2.1) t h i) ↔ _ := sh_eq (k := 3) hR hI (by decide) (by omega) (by omega)
    rw [hr2, q]
    refine ⟨fun w => ?_, fun w => ?_⟩
    · refine (show nI i + nI 1 = nI (i + 1) from nI_add _ _) ▸ ws_loop_46 g M2 P z t h hh hR hI hsz hP j (i + 1) (by omega) ?_
      rw [fA, decide_eq_true w, Bool.true_and] at e
      exact e
    · rw [fA, decide_eq_false w, Bool.false_and] at e
      rw [mb_f (by unfold dSo; rw [← e, Bool.and_false]; decide)] at hP
      exact ⟨Or.inl rfl, hP⟩
theorem ws_run_46 (g : mG) (M : mM) (P : mP) (z : aZ) (t : Int32) (h : Nat) (hh : h < 4) (hR : RpC M z) (hI : zInv z) (hP : P (some (.inl (mb (dSo (zT z.2.1) (z.2.2.2 3) t h = true)))) M) :
    mRun (mSx g) (f_X7_wouldBeSo g) P (0, [some (.inr (some 0)), some (.inr (some 46)), some (.inl t), some (.inl (nI h)), none], [], M) := by
  have hf := tFull_le hI.T
  have hsz := (hI.2.2.2 3 (by decide)).2.1
  have hs2 : M 46 2 = nI (z.2.2.2 3).2.1 := (hR.2.2.2.2.1 3 (by decide)).2.1
  refine v_ws_46 g M P _ _ ⟨n4, ?_⟩
  rw [RpC_full hR hI, hs2, nI_eq (by omega) (by omega)]
  refine ⟨fun w => ?_, fun w => ?_⟩
  · exact ws_loop_46 g M P z t h hh hR hI w hP _ 0 (Nat.zero_add _) rfl
  · rw [mb_f (by unfold dSo; rw [decide_eq_false w, Bool.false_and]; decide)] at hP
    exact ⟨Or.inl rfl, hP⟩
theorem run_X7_wouldBeSo : mRunOf 5 t_X7_wouldBeSo f_X7_wouldBeSo := fun g as M P hT => by
  obtain ⟨⟨k, z, t, h⟩, ⟨h1, rfl, h3, h4, h5⟩, hP⟩ := hT
  refine ⟨Nat.le_of_ble_eq_true rfl, ?_⟩
  dsimp only at h1 h3 h4 h5
  have hP' := hP _ _ ⟨rfl, rfl⟩
  rcases (by omega : k = 0 ∨ k = 1 ∨ k = 2 ∨ k = 3) with rfl | rfl | rfl | rfl
  · exact ws_run_40 g M P z t h h5 h3 h4 hP'
  · exact ws_run_42 g M P z t h h5 h3 h4 hP'
  · exact ws_run_44 g M P z t h h5 h3 h4 hP'
  · exact ws_run_46 g M P z t h h5 h3 h4 hP'
theorem ok_X7_wouldBeSo : mOK yX7_wouldBeSo cX7_wouldBeSo 5 (some .boolean) 3 t_X7_wouldBeSo := mOK.of f_X7_wouldBeSo (by decide) (fun _ => rfl) (fun g => mCodeOK kk_X7_wouldBeSo) (fun g => mFldL fk_RX7 rfl) (fun g idx v h => by cases h) (fun g idx v h => by cases h) (mCalL (l := l_X7_wouldBeSo) (List.forall_mem_cons.mpr ⟨mSite.V (idx := 156) ok_X2_full (by decide) (by decide) rv_X2_full wc_X2_full wk_RX7_156 wi_X2_full wl_X2_full wn_RX2 wd_X2_full, List.forall_mem_cons.mpr ⟨mSite.S (idx := 107) ok_X7_at (by decide) (by decide) wc_X7_at wk_RX7_107 wt_X7_at wn_RX7 wd_X7_at, List.forall_mem_cons.mpr ⟨mSite.V (idx := 385) ok_X2_winnerOf (by decide) (by decide) rv_X2_winnerOf wc_X2_winnerOf wk_RX7_385 wi_X2_winnerOf wl_X2_winnerOf wn_RX2 wd_X2_winnerOf, fun _ h => absurd h List.not_mem_nil⟩⟩⟩) (fun _ => rfl)) run_X7_wouldBeSo

