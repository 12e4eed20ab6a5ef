/-! ===== CLASS Play: a card is lifted; a play becomes another; it is cleared ===== -/
theorem nI_and3' : ∀ n, n < 64 → nI n &&& nI 3 = nI (n % 4) := by decide +kernel
def pre_X2_lift (q : Nat × aP × Nat) (as : List mV) (M : mM) : Prop := pl_X2 q.1 = true ∧ as = [.inr (some q.1)] ∧ RpP q.1 M q.2.1.1 q.2.1.2.1 q.2.1.2.2.1 q.2.1.2.2.2.1 (q.2.1.2.2.2.2 ++ [q.2.2]) ∧ aOk q.2.1.1 q.2.1.2.1 (q.2.1.2.2.2.2 ++ [q.2.2])
def post_X2_lift (q : Nat × aP × Nat) (_ : List mV) (M : mM) (M' : mM) : Prop := RpS q.1 M' q.2.1 ∧ FrP q.1 M M'
abbrev t_X2_lift : mG → mT := mRv pre_X2_lift post_X2_lift
theorem mo_X2_lift : mMn t_X2_lift := mRv_mono
theorem rv_X2_lift : mHasR yX2_lift 0 t_X2_lift := by
  intro g as M P hT hl
  obtain ⟨q, ⟨h1, h2, -⟩, -⟩ := hT
  exact ⟨_, _, h2, is_X2 g _ h1⟩
def k_X2_lift : List (Nat × mI) := [(0, .aload_n 0, 1, 0, 0, []),
  (1, .getfield 37, 3, 0, 0, []),
  (4, .ifCond .ne 4, 3, 8, 0, []),
  (7, .return_, 1, 0, 0, []),
  (8, .aload_n 0, 1, 0, 0, []),
  (9, .getfield 37, 3, 0, 0, []),
  (12, .iconst 4, 1, 0, nI 4, []),
  (13, .irem, 1, 0, 0, []),
  (14, .ifCond .ne 23, 3, 37, 0, []),
  (17, .aload_n 0, 1, 0, 0, []),
  (18, .aload_n 0, 1, 0, 0, []),
  (19, .getfield 27, 3, 0, 0, []),
  (22, .aload_n 0, 1, 0, 0, []),
  (23, .invokevirtual 79, 3, 0, 0, []),
  (26, .iconst 1, 1, 0, nI 1, []),
  (27, .isub, 1, 0, 0, []),
  (28, .invokestatic 56, 3, 0, 0, []),
  (31, .iconst 1, 1, 0, nI 1, []),
  (32, .iand, 1, 0, 0, []),
  (33, .iconst (-1), 1, 0, -1, []),
  (34, .invokevirtual 106, 3, 0, 0, []),
  (37, .aload_n 0, 1, 0, 0, []),
  (38, .dup, 1, 0, 0, []),
  (39, .getfield 37, 3, 0, 0, []),
  (42, .iconst 1, 1, 0, nI 1, []),
  (43, .isub, 1, 0, 0, []),
  (44, .putfield 37, 3, 0, 0, []),
  (47, .aload_n 0, 1, 0, 0, []),
  (48, .aload_n 0, 1, 0, 0, []),
  (49, .getfield 24, 3, 0, 0, []),
  (52, .aload_n 0, 1, 0, 0, []),
  (53, .invokevirtual 79, 3, 0, 0, []),
  (56, .invokestatic 56, 3, 0, 0, []),
  (59, .aload_n 0, 1, 0, 0, []),
  (60, .getfield 37, 3, 0, 0, []),
  (63, .iadd, 1, 0, 0, []),
  (64, .iconst 3, 1, 0, nI 3, []),
  (65, .iand, 1, 0, 0, []),
  (66, .putfield 67, 3, 0, 0, []),
  (69, .aload_n 0, 1, 0, 0, []),
  (70, .getfield 18, 3, 0, 0, []),
  (73, .aload_n 0, 1, 0, 0, []),
  (74, .getfield 67, 3, 0, 0, []),
  (77, .aload_n 0, 1, 0, 0, []),
  (78, .getfield 18, 3, 0, 0, []),
  (81, .aload_n 0, 1, 0, 0, []),
  (82, .getfield 67, 3, 0, 0, []),
  (85, .invokestatic 56, 3, 0, 0, []),
  (88, .aload_n 0, 1, 0, 0, []),
  (89, .getfield 21, 3, 0, 0, []),
  (92, .aload_n 0, 1, 0, 0, []),
  (93, .getfield 37, 3, 0, 0, []),
  (96, .invokestatic 56, 3, 0, 0, []),
  (99, .invokestatic 60, 3, 0, 0, []),
  (102, .ior, 1, 0, 0, []),
  (103, .invokestatic 48, 3, 0, 0, []),
  (106, .return_, 1, 0, 0, [])]
theorem kk_X2_lift : (k_X2_lift.all fun e => mChk cX2_lift e.1 e.2) = true := by decide +kernel
def l_X2_lift : List (Nat × Nat × (mG → mT)) := [(3 * 79, 0 + 1, t_X2_full), (3 * 56 + 1, 2, t_X7_at), (3 * 106, 2 + 1, t_X2_addWon), (3 * 60 + 1, 1, t_X7_bitOf), (3 * 48 + 1, 3, t_X7_set)]
def f_X2_lift (g : mG) : mF := (mLk k_X2_lift, mLk fl_RX2, mLk (l_X2_lift.map fun e => (e.1, e.2.1, e.2.2 g)), mLk ([] : List (Nat × mV)), mLk ([] : List (Nat × mV)), none)
theorem m_X2_lift (g : mG) : mMono (f_X2_lift g) := mMonoL (g := g) (l := l_X2_lift) (List.forall_mem_cons.mpr ⟨mo_X2_full, List.forall_mem_cons.mpr ⟨mo_X7_at, List.forall_mem_cons.mpr ⟨mo_X2_addWon, List.forall_mem_cons.mpr ⟨mo_X7_bitOf, List.forall_mem_cons.mpr ⟨mo_X7_set, fun _ h => absurd h List.not_mem_nil⟩⟩⟩⟩⟩) rfl

theorem v_lift_0_16 (g : mG) (M : mM) (P : mP) 
    (h : (¬ (M 16 7) = 0 → ¬ (nI 4) = 0 ∧ ((¬ ((M 16 7) - (M 16 7) / (nI 4) * (nI 4)) = 0 → mRun (mSx g) (f_X2_lift g) P (37, [some (.inr (some 16))], [], M)) ∧ (¬ (¬ ((M 16 7) - (M 16 7) / (nI 4) * (nI 4)) = 0) → ¬ (nI 4) = 0 ∧ ((let M1 : mM := mUp M 23 (aSet (M 23) 2 ((aAt (M 22) 8 (((M 16 7) / (nI 4)) - (nI 1))) &&& (nI 1)) ((aAt (M 23) 2 ((aAt (M 22) 8 (((M 16 7) / (nI 4)) - (nI 1))) &&& (nI 1))) + (-1))); mRun (mSx g) (f_X2_lift g) P (37, [some (.inr (some 16))], [], M1)))))) ∧ (¬ (¬ (M 16 7) = 0) → P none M)) :
    mRun (mSx g) (f_X2_lift g) P (0, [some (.inr (some 16))], [], M) := mRun.vc (m_X2_lift g) [37] 21 h

theorem v_lift_37_16 (g : mG) (M : mM) (P : mP) 
    (h : let M1 : mM := mW1 M 16 7 ((M 16 7) - (nI 1)); ¬ (nI 4) = 0 ∧ ((let M2 : mM := mW1 M1 16 8 (((aAt (M 21) 8 (((M 16 7) - (nI 1)) / (nI 4))) + ((M 16 7) - (nI 1))) &&& (nI 3)); let M3 : mM := mUp M2 19 (aSet (M 19) 4 (((aAt (M 21) 8 (((M 16 7) - (nI 1)) / (nI 4))) + ((M 16 7) - (nI 1))) &&& (nI 3)) ((aAt (M 19) 4 (((aAt (M 21) 8 (((M 16 7) - (nI 1)) / (nI 4))) + ((M 16 7) - (nI 1))) &&& (nI 3))) ||| (fBit (aAt (M 20) 32 ((M 16 7) - (nI 1)))))); P none M3))) :
    mRun (mSx g) (f_X2_lift g) P (37, [some (.inr (some 16))], [], M) := mRun.vc (m_X2_lift g) [] 36 h

set_option maxHeartbeats 4000000 in
theorem lift_b_16 (g : mG) (M : mM) (P : mP) (x : aX) (dl : Nat → Int32) (a0 a1 : Int32) (cs : List Nat) (c : Nat) (r1 : M 16 7 = nI (cs.length + 1)) (r3 : M 16 9 = x.1) (r4 : M 16 10 = nI x.2.1) (r5 : M 16 11 = x.2.2.1) (r6 : ∀ j, j < cs.length + 1 → M 20 j = nI (aC (cs ++ [c]) j)) (r7 : ∀ q, q < 4 → M 18 q = dl q) (r8 : ∀ q, q < 4 → M 19 q = aHd dl (cs ++ [c]) q)
    (r9 : ∀ i, 4 * i < cs.length + 1 → M 21 i = nI (aLd x (cs ++ [c]) i)) (r10 : ∀ i, 4 * i + 4 ≤ cs.length → M 22 i = nI (aLd x (cs ++ [c]) (i + 1))) (r11 : M 23 0 = nI (aWn x cs 0 (cs.length / 4)) + a0) (r12 : M 23 1 = nI (aWn x cs 1 (cs.length / 4)) + a1) (hok : aOk x dl (cs ++ [c]))
    (hP : ∀ M', RpP 16 M' x dl a0 a1 cs → FrP 16 M M' → P none M') : mRun (mSx g) (f_X2_lift g) P (37, [some (.inr (some 16))], [], M) := by
  obtain ⟨hok1, hc, hbc, hnm⟩ := hok.old
  have hlt := aOk.lt hok1
  obtain ⟨k1, k2, k3, k4, k5⟩ := hok
  rw [List.length_append, List.length_singleton] at k3
  have hl4 := aLd_lt (x := x) (cs := cs) k2 (cs.length / 4)
  have e0 : M 16 7 - nI 1 = nI cs.length := by rw [r1, pk_sub (by omega)]; rfl
  have e1 : aAt (M 21) 8 (nI (cs.length / 4)) = nI (aLd x cs (cs.length / 4)) := by
    rw [aAt_in (by omega) (by decide), ← aLd_old (c := c) (by omega)]
    exact r9 _ (by omega)
  have e2 : (nI (aLd x cs (cs.length / 4)) + nI cs.length) &&& nI 3 = nI (aTn x cs cs.length) := by
    rw [nI_add, nI_and3' _ (by omega)]
    unfold aTn
    congr 1
    omega
  have e3 : aAt (M 20) 32 (nI cs.length) = nI c := by
    rw [aAt_in (by omega) (by decide), ← aC_new (cs := cs) (c := c)]
    exact (r6 _ (by omega)).trans (by rw [aC_new])
  refine v_lift_37_16 g M P ?_
  rw [e0, nI_div4 (by omega), e1, e2, e3]
  intro M1
  refine ⟨n4, ?_⟩
  intro M2 M3
  have hset : M3 19 = upd (M 19) (aTn x cs cs.length) (M 19 (aTn x cs cs.length) ||| fBit (nI c)) := by
    show mUp M2 19 (aSet (M 19) 4 (nI (aTn x cs cs.length)) (aAt (M 19) 4 (nI (aTn x cs cs.length)) ||| fBit (nI c))) 19 = _
    rw [mUp_at, aSet_in aTn_lt (by decide), aAt_in aTn_lt (by decide)]
  have f3 : ∀ d, d ≠ 16 → d ≠ 19 → M3 d = M d := fun d h1 h2 => by
    show mUp (mW1 (mW1 M 16 7 _) 16 8 _) 19 _ d = _
    rw [mUp_ne h2, mW1_c h1, mW1_c h1]
  have g7 : M3 16 7 = nI cs.length := by
    show mUp (mW1 (mW1 M 16 7 _) 16 8 _) 19 _ 16 7 = _
    rw [mUp_ne (by decide), mW1_k (by decide), mW1_s]
  have g8 : M3 16 8 = nI (aTn x cs cs.length) := by
    show mUp (mW1 (mW1 M 16 7 _) 16 8 _) 19 _ 16 8 = _
    rw [mUp_ne (by decide), mW1_s]
  have g3 : ∀ k, k ≠ 7 → k ≠ 8 → M3 16 k = M 16 k := fun k h1 h2 => by
    show mUp (mW1 (mW1 M 16 7 _) 16 8 _) 19 _ 16 k = _
    rw [mUp_ne (by decide), mW1_k h2, mW1_k h1]
  refine hP M3 ⟨⟨g7, g8, (g3 9 (by decide) (by decide)).trans r3, (g3 10 (by decide) (by decide)).trans r4, (g3 11 (by decide) (by decide)).trans r5⟩, fun j hj => ?_, fun q hq => ?_, fun q hq => ?_, fun i hi => ?_, fun i hi => ?_, ?_, ?_⟩ (fun d hd => f3 d (by omega) (by omega))
  · rw [show M3 (16 + 4) = M 20 from f3 20 (by decide) (by decide), ← aC_old (c := c) hj]
    exact r6 j (by omega)
  · rw [show M3 (16 + 2) = M 18 from f3 18 (by decide) (by decide)]
    exact r7 q hq
  · rw [show M3 (16 + 3) = M3 19 from rfl, hset]
    by_cases e : q = aTn x cs cs.length
    · rw [e, upd_s, r8 _ aTn_lt, aMk_in hlt hc]
      refine bt_ext (fun i hi => ?_)
      rw [bt_or, bt_and, bt_not hi, bt_fBit c hc i hi, bt_aHd hlt hi]
      by_cases e2 : i = c
      · subst e2
        rw [hbc]
        simp [hnm]
      · simp [e2]
    · rw [upd_n e, r8 q hq]
      exact aHd_other hlt hc k4 aTn_lt hq hbc e
  · rw [show M3 (16 + 5) = M 21 from f3 21 (by decide) (by decide), ← aLd_old (c := c) (by omega)]
    exact r9 i (by omega)
  · rw [show M3 (16 + 6) = M 22 from f3 22 (by decide) (by decide), ← aLd_old (c := c) (by omega)]
    exact r10 i hi
  · rw [show M3 (16 + 7) = M 23 from f3 23 (by decide) (by decide)]
    exact r11
  · rw [show M3 (16 + 7) = M 23 from f3 23 (by decide) (by decide)]
    exact r12
set_option maxHeartbeats 4000000 in
theorem lift_run_16 (g : mG) (M : mM) (P : mP) (x : aX) (dl : Nat → Int32) (a0 a1 : Int32) (cs : List Nat) (c : Nat) (hR : RpP 16 M x dl a0 a1 (cs ++ [c])) (hok : aOk x dl (cs ++ [c]))
    (hP : ∀ M', RpP 16 M' x dl a0 a1 cs → FrP 16 M M' → P none M') : mRun (mSx g) (f_X2_lift g) P (0, [some (.inr (some 16))], [], M) := by
  obtain ⟨⟨r1, r2, r3, r4, r5⟩, r6, r7, r8, r9, r10, r11, r12⟩ := hR
  have k3 : cs.length + 1 ≤ 32 := by have := hok.2.2.1; simpa using this
  have k2 := hok.2.1
  rw [List.length_append, List.length_singleton] at r1 r2 r6 r9 r10 r11 r12
  refine v_lift_0_16 g M P ⟨fun _ => ⟨n4, ?_⟩, fun z => absurd (by rw [r1]; exact nI_ne0 (by omega) (by omega)) z⟩
  rw [r1, nI_mod4 (by omega), nI_div4 (by omega)]
  refine ⟨fun hz => ?_, fun hz => ⟨n4, ?_⟩⟩
  · have hz' : (cs.length + 1) % 4 ≠ 0 := fun z => hz (by rw [z]; rfl)
    refine lift_b_16 g M P x dl a0 a1 cs c r1 r3 r4 r5 r6 r7 r8 r9 (fun i hi => r10 i (by omega)) ?_ ?_ hok hP
    · have := r11
      rw [show (cs.length + 1) / 4 = cs.length / 4 by omega, aWn_old (by omega)] at this
      exact this
    · have := r12
      rw [show (cs.length + 1) / 4 = cs.length / 4 by omega, aWn_old (by omega)] at this
      exact this
  · have hz' : (cs.length + 1) % 4 = 0 := (nI_eq (by omega) (by decide)).mp (Classical.not_not.mp hz)
    have hw4 : aLd x (cs ++ [c]) (cs.length / 4 + 1) < 4 := aLd_lt k2 _
    have e1 : aAt (M 22) 8 (nI ((cs.length + 1) / 4) - nI 1) = nI (aLd x (cs ++ [c]) (cs.length / 4 + 1)) := by
      rw [show (cs.length + 1) / 4 = cs.length / 4 + 1 by omega, pk_sub (by omega), show cs.length / 4 + 1 - 1 = cs.length / 4 by omega, aAt_in (by omega) (by decide)]
      exact r10 _ (by omega)
    rw [e1, nI_and1 _ (by omega), aAt_in (by omega) (by decide)]
    intro M1
    have hset : M1 23 = upd (M 23) (aLd x (cs ++ [c]) (cs.length / 4 + 1) % 2) (M 23 (aLd x (cs ++ [c]) (cs.length / 4 + 1) % 2) + -1) := by
      show mUp M 23 (aSet (M 23) 2 (nI (aLd x (cs ++ [c]) (cs.length / 4 + 1) % 2)) _) 23 = _
      rw [mUp_at, aSet_in (by omega) (by decide)]
    have f1 : ∀ d, d ≠ 23 → M1 d = M d := fun d h => mUp_ne h
    have sub1 : ∀ (k : Nat) (z : Int32), nI (k + 1) + z + -1 = nI k + z := fun k z => by
      rw [← nI_add, Int32.add_assoc, Int32.add_assoc, Int32.add_comm (nI 1), Int32.add_assoc, show (-1 : Int32) + nI 1 = 0 by decide, Int32.add_zero]
    rw [show (cs.length + 1) / 4 = cs.length / 4 + 1 by omega] at r11 r12
    rw [aWn, aWn_old (by omega)] at r11 r12
    refine lift_b_16 g M1 P x dl a0 a1 cs c r1 r3 r4 r5 (fun j hj => (congrFun (f1 20 (by decide)) j).trans (r6 j hj)) (fun j hj => (congrFun (f1 18 (by decide)) j).trans (r7 j hj)) (fun j hj => (congrFun (f1 19 (by decide)) j).trans (r8 j hj)) (fun j hj => (congrFun (f1 21 (by decide)) j).trans (r9 j hj)) (fun j hj => (congrFun (f1 22 (by decide)) j).trans (r10 j (by omega))) ?_ ?_ hok (fun M' h1 h2 => hP M' h1 (fun d hd => by rw [h2 d hd]; exact f1 d (by omega)))
    · rw [hset]
      by_cases e : aLd x (cs ++ [c]) (cs.length / 4 + 1) % 2 = 0
      · rw [e, upd_s]
        rw [if_pos e] at r11
        exact (congrArg (fun z => z + (-1 : Int32)) r11).trans (sub1 _ _)
      · rw [upd_n (Ne.symm e)]
        rw [if_neg e] at r11
        exact r11
    · rw [hset]
      by_cases e : aLd x (cs ++ [c]) (cs.length / 4 + 1) % 2 = 1
      · rw [e, upd_s]
        rw [if_pos e] at r12
        exact (congrArg (fun z => z + (-1 : Int32)) r12).trans (sub1 _ _)
      · rw [upd_n (Ne.symm e)]
        rw [if_neg e] at r12
        exact r12
theorem v_lift_0_29 (g : mG) (M : mM) (P : mP) 
    (h : (¬ (M 29 7) = 0 → ¬ (nI 4) = 0 ∧ ((¬ ((M 29 7) - (M 29 7) / (nI 4) * (nI 4)) = 0 → mRun (mSx g) (f_X2_lift g) P (37, [some (.inr (some 29))], [], M)) ∧ (¬ (¬ ((M 29 7) - (M 29 7) / (nI 4) * (nI 4)) = 0) → ¬ (nI 4) = 0 ∧ ((let M1 : mM := mUp M 36 (aSet (M 36) 2 ((aAt (M 35) 8 (((M 29 7) / (nI 4)) - (nI 1))) &&& (nI 1)) ((aAt (M 36) 2 ((aAt (M 35) 8 (((M 29 7) / (nI 4)) - (nI 1))) &&& (nI 1))) + (-1))); mRun (mSx g) (f_X2_lift g) P (37, [some (.inr (some 29))], [], M1)))))) ∧ (¬ (¬ (M 29 7) = 0) → P none M)) :
    mRun (mSx g) (f_X2_lift g) P (0, [some (.inr (some 29))], [], M) := mRun.vc (m_X2_lift g) [37] 21 h

theorem v_lift_37_29 (g : mG) (M : mM) (P : mP) 
    (h : let M1 : mM := mW1 M 29 7 ((M 29 7) - (nI 1)); ¬ (nI 4) = 0 ∧ ((let M2 : mM := mW1 M1 29 8 (((aAt (M 34) 8 (((M 29 7) - (nI 1)) / (nI 4))) + ((M 29 7) - (nI 1))) &&& (nI 3)); let M3 : mM := mUp M2 32 (aSet (M 32) 4 (((aAt (M 34) 8 (((M 29 7) - (nI 1)) / (nI 4))) + ((M 29 7) - (nI 1))) &&& (nI 3)) ((aAt (M 32) 4 (((aAt (M 34) 8 (((M 29 7) - (nI 1)) / (nI 4))) + ((M 29 7) - (nI 1))) &&& (nI 3))) ||| (fBit (aAt (M 33) 32 ((M 29 7) - (nI 1)))))); P none M3))) :
    mRun (mSx g) (f_X2_lift g) P (37, [some (.inr (some 29))], [], M) := mRun.vc (m_X2_lift g) [] 36 h

set_option maxHeartbeats 4000000 in
theorem lift_b_29 (g : mG) (M : mM) (P : mP) (x : aX) (dl : Nat → Int32) (a0 a1 : Int32) (cs : List Nat) (c : Nat) (r1 : M 29 7 = nI (cs.length + 1)) (r3 : M 29 9 = x.1) (r4 : M 29 10 = nI x.2.1) (r5 : M 29 11 = x.2.2.1) (r6 : ∀ j, j < cs.length + 1 → M 33 j = nI (aC (cs ++ [c]) j)) (r7 : ∀ q, q < 4 → M 31 q = dl q) (r8 : ∀ q, q < 4 → M 32 q = aHd dl (cs ++ [c]) q)
    (r9 : ∀ i, 4 * i < cs.length + 1 → M 34 i = nI (aLd x (cs ++ [c]) i)) (r10 : ∀ i, 4 * i + 4 ≤ cs.length → M 35 i = nI (aLd x (cs ++ [c]) (i + 1))) (r11 : M 36 0 = nI (aWn x cs 0 (cs.length / 4)) + a0) (r12 : M 36 1 = nI (aWn x cs 1 (cs.length / 4)) + a1) (hok : aOk x dl (cs ++ [c]))
    (hP : ∀ M', RpP 29 M' x dl a0 a1 cs → FrP 29 M M' → P none M') : mRun (mSx g) (f_X2_lift g) P (37, [some (.inr (some 29))], [], M) := by
  obtain ⟨hok1, hc, hbc, hnm⟩ := hok.old
  have hlt := aOk.lt hok1
  obtain ⟨k1, k2, k3, k4, k5⟩ := hok
  rw [List.length_append, List.length_singleton] at k3
  have hl4 := aLd_lt (x := x) (cs := cs) k2 (cs.length / 4)
  have e0 : M 29 7 - nI 1 = nI cs.length := by rw [r1, pk_sub (by omega)]; rfl
  have e1 : aAt (M 34) 8 (nI (cs.length / 4)) = nI (aLd x cs (cs.length / 4)) := by
    rw [aAt_in (by omega) (by decide), ← aLd_old (c := c) (by omega)]
    exact r9 _ (by omega)
  have e2 : (nI (aLd x cs (cs.length / 4)) + nI cs.length) &&& nI 3 = nI (aTn x cs cs.length) := by
    rw [nI_add, nI_and3' _ (by omega)]
    unfold aTn
    congr 1
    omega
  have e3 : aAt (M 33) 32 (nI cs.length) = nI c := by
    rw [aAt_in (by omega) (by decide), ← aC_new (cs := cs) (c := c)]
    exact (r6 _ (by omega)).trans (by rw [aC_new])
  refine v_lift_37_29 g M P ?_
  rw [e0, nI_div4 (by omega), e1, e2, e3]
  intro M1
  refine ⟨n4, ?_⟩
  intro M2 M3
  have hset : M3 32 = upd (M 32) (aTn x cs cs.length) (M 32 (aTn x cs cs.length) ||| fBit (nI c)) := by
    show mUp M2 32 (aSet (M 32) 4 (nI (aTn x cs cs.length)) (aAt (M 32) 4 (nI (aTn x cs cs.length)) ||| fBit (nI c))) 32 = _
    rw [mUp_at, aSet_in aTn_lt (by decide), aAt_in aTn_lt (by decide)]
  have f3 : ∀ d, d ≠ 29 → d ≠ 32 → M3 d = M d := fun d h1 h2 => by
    show mUp (mW1 (mW1 M 29 7 _) 29 8 _) 32 _ d = _
    rw [mUp_ne h2, mW1_c h1, mW1_c h1]
  have g7 : M3 29 7 = nI cs.length := by
    show mUp (mW1 (mW1 M 29 7 _) 29 8 _) 32 _ 29 7 = _
    rw [mUp_ne (by decide), mW1_k (by decide), mW1_s]
  have g8 : M3 29 8 = nI (aTn x cs cs.length) := by
    show mUp (mW1 (mW1 M 29 7 _) 29 8 _) 32 _ 29 8 = _
    rw [mUp_ne (by decide), mW1_s]
  have g3 : ∀ k, k ≠ 7 → k ≠ 8 → M3 29 k = M 29 k := fun k h1 h2 => by
    show mUp (mW1 (mW1 M 29 7 _) 29 8 _) 32 _ 29 k = _
    rw [mUp_ne (by decide), mW1_k h2, mW1_k h1]
  refine hP M3 ⟨⟨g7, g8, (g3 9 (by decide) (by decide)).trans r3, (g3 10 (by decide) (by decide)).trans r4, (g3 11 (by decide) (by decide)).trans r5⟩, fun j hj => ?_, fun q hq => ?_, fun q hq => ?_, fun i hi => ?_, fun i hi => ?_, ?_, ?_⟩ (fun d hd => f3 d (by omega) (by omega))
  · rw [show M3 (29 + 4) = M 33 from f3 33 (by decide) (by decide), ← aC_old (c := c) hj]
    exact r6 j (by omega)
  · rw [show M3 (29 + 2) = M 31 from f3 31 (by decide) (by decide)]
    exact r7 q hq
  · rw [show M3 (29 + 3) = M3 32 from rfl, hset]
    by_cases e : q = aTn x cs cs.length
    · rw [e, upd_s, r8 _ aTn_lt, aMk_in hlt hc]
      refine bt_ext (fun i hi => ?_)
      rw [bt_or, bt_and, bt_not hi, bt_fBit c hc i hi, bt_aHd hlt hi]
      by_cases e2 : i = c
      · subst e2
        rw [hbc]
        simp [hnm]
      · simp [e2]
    · rw [upd_n e, r8 q hq]
      exact aHd_other hlt hc k4 aTn_lt hq hbc e
  · rw [show M3 (29 + 5) = M 34 from f3 34 (by decide) (by decide), ← aLd_old (c := c) (by omega)]
    exact r9 i (by omega)
  · rw [show M3 (29 + 6) = M 35 from f3 35 (by decide) (by decide), ← aLd_old (c := c) (by omega)]
    exact r10 i hi
  · rw [show M3 (29 + 7) = M 36 from f3 36 (by decide) (by decide)]
    exact r11
  · rw [show M3 (29 + 7) = M 36 from f3 36 (by decide) (by decide)]
    exact r12
set_option maxHeartbeats 4000000 in
theorem lift_run_29 (g : mG) (M : mM) (P : mP) (x : aX) (dl : Nat → Int32) (a0 a1 : Int32) (cs : List Nat) (c : Nat) (hR : RpP 29 M x dl a0 a1 (cs ++ [c])) (hok : aOk x dl (cs ++ [c]))
    (hP : ∀ M', RpP 29 M' x dl a0 a1 cs → FrP 29 M M' → P none M') : mRun (mSx g) (f_X2_lift g) P (0, [some (.inr (some 29))], [], M) := by
  obtain ⟨⟨r1, r2, r3, r4, r5⟩, r6, r7, r8, r9, r10, r11, r12⟩ := hR
  have k3 : cs.length + 1 ≤ 32 := by have := hok.2.2.1; simpa using this
  have k2 := hok.2.1
  rw [List.length_append, List.length_singleton] at r1 r2 r6 r9 r10 r11 r12
  refine v_lift_0_29 g M P ⟨fun _ => ⟨n4, ?_⟩, fun z => absurd (by rw [r1]; exact nI_ne0 (by omega) (by omega)) z⟩
  rw [r1, nI_mod4 (by omega), nI_div4 (by omega)]
  refine ⟨fun hz => ?_, fun hz => ⟨n4, ?_⟩⟩
  · have hz' : (cs.length + 1) % 4 ≠ 0 := fun z => hz (by rw [z]; rfl)
    refine lift_b_29 g M P x dl a0 a1 cs c r1 r3 r4 r5 r6 r7 r8 r9 (fun i hi => r10 i (by omega)) ?_ ?_ hok hP
    · have := r11
      rw [show (cs.length + 1) / 4 = cs.length / 4 by omega, aWn_old (by omega)] at this
      exact this
    · have := r12
      rw [show (cs.length + 1) / 4 = cs.length / 4 by omega, aWn_old (by omega)] at this
      exact this
  · have hz' : (cs.length + 1) % 4 = 0 := (nI_eq (by omega) (by decide)).mp (Classical.not_not.mp hz)
    have hw4 : aLd x (cs ++ [c]) (cs.length / 4 + 1) < 4 := aLd_lt k2 _
    have e1 : aAt (M 35) 8 (nI ((cs.length + 1) / 4) - nI 1) = nI (aLd x (cs ++ [c]) (cs.length / 4 + 1)) := by
      rw [show (cs.length + 1) / 4 = cs.length / 4 + 1 by omega, pk_sub (by omega), show cs.length / 4 + 1 - 1 = cs.length / 4 by omega, aAt_in (by omega) (by decide)]
      exact r10 _ (by omega)
    rw [e1, nI_and1 _ (by omega), aAt_in (by omega) (by decide)]
    intro M1
    have hset : M1 36 = upd (M 36) (aLd x (cs ++ [c]) (cs.length / 4 + 1) % 2) (M 36 (aLd x (cs ++ [c]) (cs.length / 4 + 1) % 2) + -1) := by
      show mUp M 36 (aSet (M 36) 2 (nI (aLd x (cs ++ [c]) (cs.length / 4 + 1) % 2)) _) 36 = _
      rw [mUp_at, aSet_in (by omega) (by decide)]
    have f1 : ∀ d, d ≠ 36 → M1 d = M d := fun d h => mUp_ne h
    have sub1 : ∀ (k : Nat) (z : Int32), nI (k + 1) + z + -1 = nI k + z := fun k z => by
      rw [← nI_add, Int32.add_assoc, Int32.add_assoc, Int32.add_comm (nI 1), Int32.add_assoc, show (-1 : Int32) + nI 1 = 0 by decide, Int32.add_zero]
    rw [show (cs.length + 1) / 4 = cs.length / 4 + 1 by omega] at r11 r12
    rw [aWn, aWn_old (by omega)] at r11 r12
    refine lift_b_29 g M1 P x dl a0 a1 cs c r1 r3 r4 r5 (fun j hj => (congrFun (f1 33 (by decide)) j).trans (r6 j hj)) (fun j hj => (congrFun (f1 31 (by decide)) j).trans (r7 j hj)) (fun j hj => (congrFun (f1 32 (by decide)) j).trans (r8 j hj)) (fun j hj => (congrFun (f1 34 (by decide)) j).trans (r9 j hj)) (fun j hj => (congrFun (f1 35 (by decide)) j).trans (r10 j (by omega))) ?_ ?_ hok (fun M' h1 h2 => hP M' h1 (fun d hd => by rw [h2 d hd]; exact f1 d (by omega)))
    · rw [hset]
      by_cases e : aLd x (cs ++ [c]) (cs.length / 4 + 1) % 2 = 0
      · rw [e, upd_s]
        rw [if_pos e] at r11
        exact (congrArg (fun z => z + (-1 : Int32)) r11).trans (sub1 _ _)
      · rw [upd_n (Ne.symm e)]
        rw [if_neg e] at r11
        exact r11
    · rw [hset]
      by_cases e : aLd x (cs ++ [c]) (cs.length / 4 + 1) % 2 = 1
      · rw [e, upd_s]
        rw [if_pos e] at r12
        exact (congrArg (fun z => z + (-1 : Int32)) r12).trans (sub1 _ _)
      · rw [upd_n (Ne.symm e)]
        rw [if_neg e] at r12
        exact r12
theorem run_X2_lift : mRunOf 1 t_X2_lift f_X2_lift := fun g as M P hT => by
  obtain ⟨⟨p, ⟨x, dl, a0, a1, cs⟩, c⟩, ⟨h1, rfl, h3, h4⟩, hP⟩ := hT
  refine ⟨Nat.le_of_ble_eq_true rfl, ?_⟩
  dsimp only at h1 h3 h4
  rcases pl_two h1 with rfl | rfl
  · exact lift_run_16 g M P x dl a0 a1 cs c h3 h4 (fun M' h8 h9 => hP M' ⟨h8, h9⟩)
  · exact lift_run_29 g M P x dl a0 a1 cs c h3 h4 (fun M' h8 h9 => hP M' ⟨h8, h9⟩)
theorem ok_X2_lift : mOK yX2_lift cX2_lift 1 (none) 3 t_X2_lift := mOK.of f_X2_lift (by decide) (fun _ => rfl) (fun g => mCodeOK kk_X2_lift) (fun g => mFldL fk_RX2 rfl) (fun g idx v h => by cases h) (fun g idx v h => by cases h) (mCalL (l := l_X2_lift) (List.forall_mem_cons.mpr ⟨mSite.V (idx := 79) ok_X2_full (by decide) (by decide) rv_X2_full wc_X2_full wk_RX2_79 wi_X2_full wl_X2_full wn_RX2 wd_X2_full, List.forall_mem_cons.mpr ⟨mSite.SN (idx := 56) ok_X7_at (by decide) (by decide) wc_X7_at wm_RX2_56 wt_X7_at wn_RX7 wd_X7_at, List.forall_mem_cons.mpr ⟨mSite.V (idx := 106) ok_X2_addWon (by decide) (by decide) rv_X2_addWon wc_X2_addWon wk_RX2_106 wi_X2_addWon wl_X2_addWon wn_RX2 wd_X2_addWon, List.forall_mem_cons.mpr ⟨mSite.SN (idx := 60) ok_X7_bitOf (by decide) (by decide) wc_X7_bitOf wm_RX2_60 wt_X7_bitOf wn_RX7 wd_X7_bitOf, List.forall_mem_cons.mpr ⟨mSite.SN (idx := 48) ok_X7_set (by decide) (by decide) wc_X7_set wm_RX2_48 wt_X7_set wn_RX7 wd_X7_set, fun _ h => absurd h List.not_mem_nil⟩⟩⟩⟩⟩) (fun _ => rfl)) run_X2_lift

