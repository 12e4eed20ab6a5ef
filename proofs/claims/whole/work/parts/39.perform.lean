/-! ===== CLASS Table: an act ===== -/
/-- what an act asks of the table -/
def okAct (T : aT) (a : Nat × Int32 × Int32) : Prop :=
  a.1 < 9 ∧ (a.1 = 1 → T.2.1.1.1 < 4 ∧ ub a.2.2 < 5 ∧ ∀ j d, T.2.1.2.2.2 j = some d → d < 4) ∧ (a.1 = 2 → okPass T) ∧ (a.1 = 3 ∨ a.1 = 4 → T.2.1.1.1 < 4) ∧
  (a.1 = 5 → T.1.2.1 < 4 ∧ T.2.1.2.1.isSome = true ∧ aOkS T.2.2.1 ∧ T.2.2.1.2.2.2.2.length < 32 ∧ 8 * ub a.2.2 + ub a.2.1 < 32 ∧ bt (aHd T.2.2.1.2.1 T.2.2.1.2.2.2.2 (aTn T.2.2.1.1 T.2.2.1.2.2.2.2 T.2.2.1.2.2.2.2.length)) (8 * ub a.2.2 + ub a.2.1) = true) ∧
  (a.1 = 6 → T.1.2.1 < 4 ∧ T.2.1.2.1.isSome = true ∧ T.2.2.1.2.2.2.2.length < 32 ∧ ub a.2.1 ≤ 8 - T.2.2.1.2.2.2.2.length / 4)
def pre_X5_perform (q : Nat × aT × Nat × Int32 × Int32) (as : List mV) (M : mM) : Prop := (q.1 = 13 ∨ q.1 = 26) ∧ as = [.inr (some q.1), .inl (nI q.2.2.1), .inl q.2.2.2.1, .inl q.2.2.2.2] ∧ RpT q.1 M q.2.1 ∧ okAct q.2.1 q.2.2
def post_X5_perform (q : Nat × aT × Nat × Int32 × Int32) (_ : List mV) (M : mM) (M' : mM) : Prop := RpT q.1 M' (tStep q.2.1 q.2.2) ∧ FrT q.1 M M'
abbrev t_X5_perform : mG → mT := mRv pre_X5_perform post_X5_perform
theorem mo_X5_perform : mMn t_X5_perform := mRv_mono
theorem rv_X5_perform : mHasR yX5_perform 3 t_X5_perform := by
  intro g as M P hT hl
  obtain ⟨q, ⟨h1, h2, -⟩, -⟩ := hT
  refine ⟨_, _, h2, is_X5 g _ ?_⟩
  rcases h1 with h1 | h1 <;> rw [h1] <;> rfl
def k_X5_perform : List (Nat × mI) := [(0, .iload_n 1, 1, 1, 0, []),
  (1, .tableswitch 125 0 8 #[51, 59, 71, 78, 78, 88, 101, 109, 117], 51, 126, 0, [(nI 0, 52), (nI 1, 60), (nI 2, 72), (nI 3, 79), (nI 4, 79), (nI 5, 89), (nI 6, 102), (nI 7, 110), (nI 8, 118)]),
  (52, .aload_n 0, 1, 0, 0, []),
  (53, .iload_n 2, 1, 2, 0, []),
  (54, .invokevirtual 72, 3, 0, 0, []),
  (57, .goto 69, 3, 126, 0, []),
  (60, .aload_n 0, 1, 0, 0, []),
  (61, .getfield 12, 3, 0, 0, []),
  (64, .iload_n 2, 1, 2, 0, []),
  (65, .iload_n 3, 1, 3, 0, []),
  (66, .invokevirtual 75, 3, 0, 0, []),
  (69, .goto 57, 3, 126, 0, []),
  (72, .aload_n 0, 1, 0, 0, []),
  (73, .invokevirtual 79, 3, 0, 0, []),
  (76, .goto 50, 3, 126, 0, []),
  (79, .aload_n 0, 1, 0, 0, []),
  (80, .getfield 12, 3, 0, 0, []),
  (83, .invokevirtual 82, 3, 0, 0, []),
  (86, .goto 40, 3, 126, 0, []),
  (89, .aload_n 0, 1, 0, 0, []),
  (90, .iload_n 3, 1, 3, 0, []),
  (91, .bipush 8, 2, 0, nI 8, []),
  (93, .imul, 1, 0, 0, []),
  (94, .iload_n 2, 1, 2, 0, []),
  (95, .iadd, 1, 0, 0, []),
  (96, .invokevirtual 85, 3, 0, 0, []),
  (99, .goto 27, 3, 126, 0, []),
  (102, .aload_n 0, 1, 0, 0, []),
  (103, .iload_n 2, 1, 2, 0, []),
  (104, .invokevirtual 88, 3, 0, 0, []),
  (107, .goto 19, 3, 126, 0, []),
  (110, .aload_n 0, 1, 0, 0, []),
  (111, .iload_n 2, 1, 2, 0, []),
  (112, .putfield 42, 3, 0, 0, []),
  (115, .goto 11, 3, 126, 0, []),
  (118, .aload_n 0, 1, 0, 0, []),
  (119, .iload_n 2, 1, 2, 0, []),
  (120, .putfield 45, 3, 0, 0, []),
  (123, .goto 3, 3, 126, 0, []),
  (126, .return_, 1, 0, 0, [])]
theorem kk_X5_perform : (k_X5_perform.all fun e => mChk cX5_perform e.1 e.2) = true := by decide +kernel
def l_X5_perform : List (Nat × Nat × (mG → mT)) := [(3 * 72, 1 + 1, t_X5_beginDeal), (3 * 75, 2 + 1, t_X1_bid), (3 * 79, 0 + 1, t_X5_pass), (3 * 82, 0 + 1, t_X1_redoubleOrDouble), (3 * 85, 1 + 1, t_X5_playCard), (3 * 88, 1 + 1, t_X5_claim)]
def f_X5_perform (g : mG) : mF := (mLk k_X5_perform, mLk fl_RX5, mLk (l_X5_perform.map fun e => (e.1, e.2.1, e.2.2 g)), mLk ([] : List (Nat × mV)), mLk ([] : List (Nat × mV)), none)
theorem m_X5_perform (g : mG) : mMono (f_X5_perform g) := mMonoL (g := g) (l := l_X5_perform) (List.forall_mem_cons.mpr ⟨mo_X5_beginDeal, List.forall_mem_cons.mpr ⟨mo_X1_bid, List.forall_mem_cons.mpr ⟨mo_X5_pass, List.forall_mem_cons.mpr ⟨mo_X1_redoubleOrDouble, List.forall_mem_cons.mpr ⟨mo_X5_playCard, List.forall_mem_cons.mpr ⟨mo_X5_claim, fun _ h => absurd h List.not_mem_nil⟩⟩⟩⟩⟩⟩) rfl

set_option maxRecDepth 100000 in
theorem v_pf_0_13 (g : mG) (M : mM) (P : mP) (w y s : Int32)
    (h : (w = (nI 0) → ∃ x23 : Nat × aT × Int32, pre_X5_beginDeal x23 [.inr (some 13), .inl y] M ∧ ∀ M24 : mM, post_X5_beginDeal x23 [.inr (some 13), .inl y] M M24 → (P none M24)) ∧ (¬ w = (nI 0) → (w = (nI 1) → let M15 : mM := mW1 M 14 2 y; let M16 : mM := mW1 M15 14 3 s; let M17 : mM := mW1 M16 14 4 ((M 14 1) &&& (nI 1)); let M18 : mM := mW1 M17 14 5 (nI 0); let M19 : mM := mW1 M18 14 6 (nI 0); (¬ (aAt (M 15) 10 ((((M 14 1) &&& (nI 1)) * (nI 5)) + s)) = (-1) → let M20 : mM := mW1 M19 14 1 (((M 14 1) + (nI 1)) &&& (nI 3)); P none M20) ∧ (¬ (¬ (aAt (M 15) 10 ((((M 14 1) &&& (nI 1)) * (nI 5)) + s)) = (-1)) → let M21 : mM := mUp M19 15 (aSet (M 15) 10 ((((M 14 1) &&& (nI 1)) * (nI 5)) + s) (M 14 1)); let M22 : mM := mW1 M21 14 1 (((M 14 1) + (nI 1)) &&& (nI 3)); P none M22)) ∧ (¬ w = (nI 1) → (w = (nI 2) → ∃ x13 : Nat × aT × Nat, pre_X5_pass x13 [.inr (some 13)] M ∧ ∀ M14 : mM, post_X5_pass x13 [.inr (some 13)] M M14 → (P none M14)) ∧ (¬ w = (nI 2) → (w = (nI 3) → let M10 : mM := mW1 M 14 5 ((M 14 5) + (nI 1)); let M11 : mM := mW1 M10 14 6 (nI 0); let M12 : mM := mW1 M11 14 1 (((M 14 1) + (nI 1)) &&& (nI 3)); P none M12) ∧ (¬ w = (nI 3) → (w = (nI 4) → let M7 : mM := mW1 M 14 5 ((M 14 5) + (nI 1)); let M8 : mM := mW1 M7 14 6 (nI 0); let M9 : mM := mW1 M8 14 1 (((M 14 1) + (nI 1)) &&& (nI 3)); P none M9) ∧ (¬ w = (nI 4) → (w = (nI 5) → ∃ x5 : Nat × aT × Nat, pre_X5_playCard x5 [.inr (some 13), .inl ((s * (nI 8)) + y)] M ∧ ∀ M6 : mM, post_X5_playCard x5 [.inr (some 13), .inl ((s * (nI 8)) + y)] M M6 → (P none M6)) ∧ (¬ w = (nI 5) → (w = (nI 6) → ∃ x3 : Nat × aT × Nat, pre_X5_claim x3 [.inr (some 13), .inl y] M ∧ ∀ M4 : mM, post_X5_claim x3 [.inr (some 13), .inl y] M M4 → (P none M4)) ∧ (¬ w = (nI 6) → (w = (nI 7) → let M2 : mM := mW1 M 13 5 y; P none M2) ∧ (¬ w = (nI 7) → (w = (nI 8) → let M1 : mM := mW1 M 13 6 y; P none M1) ∧ (¬ w = (nI 8) → P none M)))))))))) :
    mRun (mSx g) (f_X5_perform g) P (0, [some (.inr (some 13)), some (.inl w), some (.inl y), some (.inl s)], [], M) := mRun.vc (m_X5_perform g) [] 11 h

theorem pf_run_13 (g : mG) (P : mP) (M : mM) (T : aT) (w : Nat) (y s : Int32) (hR : RpT 13 M T) (hok : okAct T (w, y, s)) (hP : ∀ M', RpT 13 M' (tStep T (w, y, s)) ∧ FrT 13 M M' → P none M') :
    mRun (mSx g) (f_X5_perform g) P (0, [some (.inr (some 13)), some (.inl (nI w)), some (.inl y), some (.inl s)], [], M) := by
  obtain ⟨hw, k1, k2, k3, k5, k6⟩ := hok
  dsimp only at hw k1 k2 k3 k5 k6
  have hne : ∀ k, k < 9 → w ≠ k → ¬ nI w = nI k := fun k hk h z => h ((nI_eq (by omega) (by omega)).mp z)
  have hX := hR
  obtain ⟨-, ⟨b1, -, -, -, -, -, -, b8⟩, -⟩ := hX
  have b1' : M 14 1 = nI T.2.1.1.1 := b1
  refine v_pf_0_13 g M P _ _ _ ⟨fun z => ?_, fun z0 => ⟨fun z => ?_, fun z1 => ⟨fun z => ?_, fun z2 => ⟨fun z => ?_, fun z3 => ⟨fun z => ?_, fun z4 => ⟨fun z => ?_, fun z5 => ⟨fun z => ?_, fun z6 => ⟨fun z => ?_, fun z7 => ⟨fun z => ?_, fun z8 => ?_⟩⟩⟩⟩⟩⟩⟩⟩⟩
  · obtain rfl := (nI_eq (by omega) (by decide)).mp z
    exact ⟨(13, T, y), ⟨Or.inl rfl, rfl, hR⟩, fun M2 k => hP M2 k⟩
  · obtain rfl := (nI_eq (by omega) (by decide)).mp z
    obtain ⟨h1, h2, hnm⟩ := k1 rfl
    have ix : (M 14 1 &&& nI 1) * nI 5 + s = nI (5 * (T.2.1.1.1 % 2) + ub s) := by
      rw [b1', nI_and1 _ (by omega), ← nI_ub s, pk_mul, nI_add, ub_nI (ub_lt s), Nat.mul_comm]
    have hr : aAt (M 15) 10 (nI (5 * (T.2.1.1.1 % 2) + ub s)) = oI (T.2.1.2.2.2 (5 * (T.2.1.1.1 % 2) + ub s)) := by
      rw [aAt_in (by omega) (by decide)]
      exact b8 _ (by omega)
    have e1 : (M 14 1 + nI 1) &&& nI 3 = nI (nx T.2.1.1.1) := by
      rw [b1', nI_add, nI_and3 _ (by omega)]
      rfl
    have e4 : M 14 1 &&& nI 1 = nI (T.2.1.1.1 % 2) := by rw [b1', nI_and1 _ (by omega)]
    have em : ∀ (M9 : mM), (∀ c, c ≠ 15 → M9 c = mBid M 14 y s (M 14 1 &&& nI 1) c) → (∀ j, j < 10 → M9 15 j = oI (if j = 5 * (T.2.1.1.1 % 2) + ub s ∧ T.2.1.2.2.2 j = none then some T.2.1.1.1 else T.2.1.2.2.2 j)) → P none (mW1 M9 14 1 ((M 14 1 + nI 1) &&& nI 3)) := fun M9 q1 q2 => by
      have hB := mBid_f (M := M) (b := 14) (y := y) (s := s) (q := M 14 1 &&& nI 1)
      rw [← q1 14 (by decide)] at hB
      obtain ⟨h2, h3, h4, h5, h6, h7⟩ := hB
      have w : ∀ (v : Int32) (k : Nat), k ≠ 1 → mW1 M9 14 1 v 14 k = M9 14 k := fun v k hk => mW1_k hk
      refine hP _ (bid_T (n := ub y) (u := ub s) hR h1 (fun c hc1 hc2 => (mW1_c hc1).trans ((q1 c hc2).trans (mBid_c hc1))) (mW1_s.trans e1) ((w _ 2 (by decide)).trans (h2.trans (nI_ub y).symm)) ((w _ 3 (by decide)).trans (h3.trans (nI_ub s).symm)) ((w _ 4 (by decide)).trans (h4.trans e4)) ((w _ 5 (by decide)).trans h5) ((w _ 6 (by decide)).trans h6) ((w _ 7 (by decide)).trans h7) (fun j hj => ?_))
      rw [mW1_c (by decide)]
      exact q2 j hj
    rw [ix, hr]
    refine ⟨fun z => ?_, fun z => ?_⟩
    · refine em (mBid M 14 y s (M 14 1 &&& nI 1)) (fun _ _ => rfl) (fun j hj => ?_)
      rw [mBid_c (by decide), if_neg (fun q => z (by rw [← q.1, q.2]; rfl))]
      exact b8 j hj
    · have zn : T.2.1.2.2.2 (5 * (T.2.1.1.1 % 2) + ub s) = none := by
        have z := Classical.not_not.mp z
        cases hq : T.2.1.2.2.2 (5 * (T.2.1.1.1 % 2) + ub s) with
        | none => rfl
        | some d =>
          have hd := hnm _ d hq
          rw [hq] at z
          have z2 : nI d = -1 := z
          have := congrArg Int32.toInt z2
          rw [nI_toInt (by omega), show (-1 : Int32).toInt = -1 by decide] at this
          omega
      refine em (mUp (mBid M 14 y s (M 14 1 &&& nI 1)) 15 (aSet (M 15) 10 (nI (5 * (T.2.1.1.1 % 2) + ub s)) (M 14 1))) (fun c hc => mUp_ne hc) (fun j hj => ?_)
      rw [mUp_at, aSet_in (by omega) (by decide)]
      by_cases q : j = 5 * (T.2.1.1.1 % 2) + ub s
      · rw [q, upd_s, if_pos ⟨rfl, zn⟩]
        exact b1'
      · rw [upd_n q, if_neg (fun r => q r.1)]
        exact b8 j hj
  · obtain rfl := (nI_eq (by omega) (by decide)).mp z
    exact ⟨(13, T, 0), ⟨Or.inl rfl, rfl, hR, k2 rfl⟩, fun M2 k => hP M2 k⟩
  · obtain rfl := (nI_eq (by omega) (by decide)).mp z
    exact hP _ (dbl_T hR (k3 (Or.inl rfl)))
  · obtain rfl := (nI_eq (by omega) (by decide)).mp z
    exact hP _ (dbl_T hR (k3 (Or.inr rfl)))
  · obtain rfl := (nI_eq (by omega) (by decide)).mp z
    obtain ⟨h1, h2, h3, h4, h5, h6⟩ := k5 rfl
    have e : s * nI 8 + y = nI (8 * ub s + ub y) := by
      rw [← nI_ub s, ← nI_ub y, pk_mul, nI_add, ub_nI (ub_lt s), ub_nI (ub_lt y), Nat.mul_comm]
    rw [e]
    exact ⟨(13, T, 8 * ub s + ub y), ⟨Or.inl rfl, rfl, hR, h1, h2, h3, h4, h5, h6⟩, fun M2 k => hP M2 k⟩
  · obtain rfl := (nI_eq (by omega) (by decide)).mp z
    obtain ⟨h1, h2, h3, h4⟩ := k6 rfl
    exact ⟨(13, T, ub y), ⟨Or.inl rfl, by rw [nI_ub], hR, h1, h2, h3, h4⟩, fun M2 k => hP M2 k⟩
  · obtain rfl := (nI_eq (by omega) (by decide)).mp z
    exact hP _ (rank_T hR y)
  · obtain rfl := (nI_eq (by omega) (by decide)).mp z
    exact hP _ (rule_T hR y)
  · exact absurd ((by omega : w = 0 ∨ w = 1 ∨ w = 2 ∨ w = 3 ∨ w = 4 ∨ w = 5 ∨ w = 6 ∨ w = 7 ∨ w = 8)) (fun h => by
      rcases h with rfl | rfl | rfl | rfl | rfl | rfl | rfl | rfl | rfl <;> contradiction)
set_option maxRecDepth 100000 in
theorem v_pf_0_26 (g : mG) (M : mM) (P : mP) (w y s : Int32)
    (h : (w = (nI 0) → ∃ x23 : Nat × aT × Int32, pre_X5_beginDeal x23 [.inr (some 26), .inl y] M ∧ ∀ M24 : mM, post_X5_beginDeal x23 [.inr (some 26), .inl y] M M24 → (P none M24)) ∧ (¬ w = (nI 0) → (w = (nI 1) → let M15 : mM := mW1 M 27 2 y; let M16 : mM := mW1 M15 27 3 s; let M17 : mM := mW1 M16 27 4 ((M 27 1) &&& (nI 1)); let M18 : mM := mW1 M17 27 5 (nI 0); let M19 : mM := mW1 M18 27 6 (nI 0); (¬ (aAt (M 28) 10 ((((M 27 1) &&& (nI 1)) * (nI 5)) + s)) = (-1) → let M20 : mM := mW1 M19 27 1 (((M 27 1) + (nI 1)) &&& (nI 3)); P none M20) ∧ (¬ (¬ (aAt (M 28) 10 ((((M 27 1) &&& (nI 1)) * (nI 5)) + s)) = (-1)) → let M21 : mM := mUp M19 28 (aSet (M 28) 10 ((((M 27 1) &&& (nI 1)) * (nI 5)) + s) (M 27 1)); let M22 : mM := mW1 M21 27 1 (((M 27 1) + (nI 1)) &&& (nI 3)); P none M22)) ∧ (¬ w = (nI 1) → (w = (nI 2) → ∃ x13 : Nat × aT × Nat, pre_X5_pass x13 [.inr (some 26)] M ∧ ∀ M14 : mM, post_X5_pass x13 [.inr (some 26)] M M14 → (P none M14)) ∧ (¬ w = (nI 2) → (w = (nI 3) → let M10 : mM := mW1 M 27 5 ((M 27 5) + (nI 1)); let M11 : mM := mW1 M10 27 6 (nI 0); let M12 : mM := mW1 M11 27 1 (((M 27 1) + (nI 1)) &&& (nI 3)); P none M12) ∧ (¬ w = (nI 3) → (w = (nI 4) → let M7 : mM := mW1 M 27 5 ((M 27 5) + (nI 1)); let M8 : mM := mW1 M7 27 6 (nI 0); let M9 : mM := mW1 M8 27 1 (((M 27 1) + (nI 1)) &&& (nI 3)); P none M9) ∧ (¬ w = (nI 4) → (w = (nI 5) → ∃ x5 : Nat × aT × Nat, pre_X5_playCard x5 [.inr (some 26), .inl ((s * (nI 8)) + y)] M ∧ ∀ M6 : mM, post_X5_playCard x5 [.inr (some 26), .inl ((s * (nI 8)) + y)] M M6 → (P none M6)) ∧ (¬ w = (nI 5) → (w = (nI 6) → ∃ x3 : Nat × aT × Nat, pre_X5_claim x3 [.inr (some 26), .inl y] M ∧ ∀ M4 : mM, post_X5_claim x3 [.inr (some 26), .inl y] M M4 → (P none M4)) ∧ (¬ w = (nI 6) → (w = (nI 7) → let M2 : mM := mW1 M 26 5 y; P none M2) ∧ (¬ w = (nI 7) → (w = (nI 8) → let M1 : mM := mW1 M 26 6 y; P none M1) ∧ (¬ w = (nI 8) → P none M)))))))))) :
    mRun (mSx g) (f_X5_perform g) P (0, [some (.inr (some 26)), some (.inl w), some (.inl y), some (.inl s)], [], M) := mRun.vc (m_X5_perform g) [] 11 h

theorem pf_run_26 (g : mG) (P : mP) (M : mM) (T : aT) (w : Nat) (y s : Int32) (hR : RpT 26 M T) (hok : okAct T (w, y, s)) (hP : ∀ M', RpT 26 M' (tStep T (w, y, s)) ∧ FrT 26 M M' → P none M') :
    mRun (mSx g) (f_X5_perform g) P (0, [some (.inr (some 26)), some (.inl (nI w)), some (.inl y), some (.inl s)], [], M) := by
  obtain ⟨hw, k1, k2, k3, k5, k6⟩ := hok
  dsimp only at hw k1 k2 k3 k5 k6
  have hne : ∀ k, k < 9 → w ≠ k → ¬ nI w = nI k := fun k hk h z => h ((nI_eq (by omega) (by omega)).mp z)
  have hX := hR
  obtain ⟨-, ⟨b1, -, -, -, -, -, -, b8⟩, -⟩ := hX
  have b1' : M 27 1 = nI T.2.1.1.1 := b1
  refine v_pf_0_26 g M P _ _ _ ⟨fun z => ?_, fun z0 => ⟨fun z => ?_, fun z1 => ⟨fun z => ?_, fun z2 => ⟨fun z => ?_, fun z3 => ⟨fun z => ?_, fun z4 => ⟨fun z => ?_, fun z5 => ⟨fun z => ?_, fun z6 => ⟨fun z => ?_, fun z7 => ⟨fun z => ?_, fun z8 => ?_⟩⟩⟩⟩⟩⟩⟩⟩⟩
  · obtain rfl := (nI_eq (by omega) (by decide)).mp z
    exact ⟨(26, T, y), ⟨Or.inr rfl, rfl, hR⟩, fun M2 k => hP M2 k⟩
  · obtain rfl := (nI_eq (by omega) (by decide)).mp z
    obtain ⟨h1, h2, hnm⟩ := k1 rfl
    have ix : (M 27 1 &&& nI 1) * nI 5 + s = nI (5 * (T.2.1.1.1 % 2) + ub s) := by
      rw [b1', nI_and1 _ (by omega), ← nI_ub s, pk_mul, nI_add, ub_nI (ub_lt s), Nat.mul_comm]
    have hr : aAt (M 28) 10 (nI (5 * (T.2.1.1.1 % 2) + ub s)) = oI (T.2.1.2.2.2 (5 * (T.2.1.1.1 % 2) + ub s)) := by
      rw [aAt_in (by omega) (by decide)]
      exact b8 _ (by omega)
    have e1 : (M 27 1 + nI 1) &&& nI 3 = nI (nx T.2.1.1.1) := by
      rw [b1', nI_add, nI_and3 _ (by omega)]
      rfl
    have e4 : M 27 1 &&& nI 1 = nI (T.2.1.1.1 % 2) := by rw [b1', nI_and1 _ (by omega)]
    have em : ∀ (M9 : mM), (∀ c, c ≠ 28 → M9 c = mBid M 27 y s (M 27 1 &&& nI 1) c) → (∀ j, j < 10 → M9 28 j = oI (if j = 5 * (T.2.1.1.1 % 2) + ub s ∧ T.2.1.2.2.2 j = none then some T.2.1.1.1 else T.2.1.2.2.2 j)) → P none (mW1 M9 27 1 ((M 27 1 + nI 1) &&& nI 3)) := fun M9 q1 q2 => by
      have hB := mBid_f (M := M) (b := 27) (y := y) (s := s) (q := M 27 1 &&& nI 1)
      rw [← q1 27 (by decide)] at hB
      obtain ⟨h2, h3, h4, h5, h6, h7⟩ := hB
      have w : ∀ (v : Int32) (k : Nat), k ≠ 1 → mW1 M9 27 1 v 27 k = M9 27 k := fun v k hk => mW1_k hk
      refine hP _ (bid_T (n := ub y) (u := ub s) hR h1 (fun c hc1 hc2 => (mW1_c hc1).trans ((q1 c hc2).trans (mBid_c hc1))) (mW1_s.trans e1) ((w _ 2 (by decide)).trans (h2.trans (nI_ub y).symm)) ((w _ 3 (by decide)).trans (h3.trans (nI_ub s).symm)) ((w _ 4 (by decide)).trans (h4.trans e4)) ((w _ 5 (by decide)).trans h5) ((w _ 6 (by decide)).trans h6) ((w _ 7 (by decide)).trans h7) (fun j hj => ?_))
      rw [mW1_c (by decide)]
      exact q2 j hj
    rw [ix, hr]
    refine ⟨fun z => ?_, fun z => ?_⟩
    · refine em (mBid M 27 y s (M 27 1 &&& nI 1)) (fun _ _ => rfl) (fun j hj => ?_)
      rw [mBid_c (by decide), if_neg (fun q => z (by rw [← q.1, q.2]; rfl))]
      exact b8 j hj
    · have zn : T.2.1.2.2.2 (5 * (T.2.1.1.1 % 2) + ub s) = none := by
        have z := Classical.not_not.mp z
        cases hq : T.2.1.2.2.2 (5 * (T.2.1.1.1 % 2) + ub s) with
        | none => rfl
        | some d =>
          have hd := hnm _ d hq
          rw [hq] at z
          have z2 : nI d = -1 := z
          have := congrArg Int32.toInt z2
          rw [nI_toInt (by omega), show (-1 : Int32).toInt = -1 by decide] at this
          omega
      refine em (mUp (mBid M 27 y s (M 27 1 &&& nI 1)) 28 (aSet (M 28) 10 (nI (5 * (T.2.1.1.1 % 2) + ub s)) (M 27 1))) (fun c hc => mUp_ne hc) (fun j hj => ?_)
      rw [mUp_at, aSet_in (by omega) (by decide)]
      by_cases q : j = 5 * (T.2.1.1.1 % 2) + ub s
      · rw [q, upd_s, if_pos ⟨rfl, zn⟩]
        exact b1'
      · rw [upd_n q, if_neg (fun r => q r.1)]
        exact b8 j hj
  · obtain rfl := (nI_eq (by omega) (by decide)).mp z
    exact ⟨(26, T, 0), ⟨Or.inr rfl, rfl, hR, k2 rfl⟩, fun M2 k => hP M2 k⟩
  · obtain rfl := (nI_eq (by omega) (by decide)).mp z
    exact hP _ (dbl_T hR (k3 (Or.inl rfl)))
  · obtain rfl := (nI_eq (by omega) (by decide)).mp z
    exact hP _ (dbl_T hR (k3 (Or.inr rfl)))
  · obtain rfl := (nI_eq (by omega) (by decide)).mp z
    obtain ⟨h1, h2, h3, h4, h5, h6⟩ := k5 rfl
    have e : s * nI 8 + y = nI (8 * ub s + ub y) := by
      rw [← nI_ub s, ← nI_ub y, pk_mul, nI_add, ub_nI (ub_lt s), ub_nI (ub_lt y), Nat.mul_comm]
    rw [e]
    exact ⟨(26, T, 8 * ub s + ub y), ⟨Or.inr rfl, rfl, hR, h1, h2, h3, h4, h5, h6⟩, fun M2 k => hP M2 k⟩
  · obtain rfl := (nI_eq (by omega) (by decide)).mp z
    obtain ⟨h1, h2, h3, h4⟩ := k6 rfl
    exact ⟨(26, T, ub y), ⟨Or.inr rfl, by rw [nI_ub], hR, h1, h2, h3, h4⟩, fun M2 k => hP M2 k⟩
  · obtain rfl := (nI_eq (by omega) (by decide)).mp z
    exact hP _ (rank_T hR y)
  · obtain rfl := (nI_eq (by omega) (by decide)).mp z
    exact hP _ (rule_T hR y)
  · exact absurd ((by omega : w = 0 ∨ w = 1 ∨ w = 2 ∨ w = 3 ∨ w = 4 ∨ w = 5 ∨ w = 6 ∨ w = 7 ∨ w = 8)) (fun h => by
      rcases h with rfl | rfl | rfl | rfl | rfl | rfl | rfl | rfl | rfl <;> contradiction)
theorem run_X5_perform : mRunOf 4 t_X5_perform f_X5_perform := fun g as M P hT => by
  obtain ⟨⟨t, T, w, y, s⟩, ⟨h1, rfl, h3, h4⟩, hP⟩ := hT
  refine ⟨Nat.le_of_ble_eq_true rfl, ?_⟩
  dsimp only at h1 h3 h4
  rcases h1 with rfl | rfl
  · exact pf_run_13 g P M T w y s h3 h4 (fun M' h => hP M' h)
  · exact pf_run_26 g P M T w y s h3 h4 (fun M' h => hP M' h)
theorem ok_X5_perform : mOK yX5_perform cX5_perform 4 (none) 5 t_X5_perform := mOK.of f_X5_perform (by decide) (fun _ => rfl) (fun g => mCodeOK kk_X5_perform) (fun g => mFldL fk_RX5 rfl) (fun g idx v h => by cases h) (fun g idx v h => by cases h) (mCalL (l := l_X5_perform) (List.forall_mem_cons.mpr ⟨mSite.V (idx := 72) ok_X5_beginDeal (by decide) (by decide) rv_X5_beginDeal wc_X5_beginDeal wk_RX5_72 wi_X5_beginDeal wl_X5_beginDeal wn_RX5 wd_X5_beginDeal, List.forall_mem_cons.mpr ⟨mSite.V (idx := 75) ok_X1_bid (by decide) (by decide) rv_X1_bid wc_X1_bid wk_RX5_75 wi_X1_bid wl_X1_bid wn_RX1 wd_X1_bid, List.forall_mem_cons.mpr ⟨mSite.V (idx := 79) ok_X5_pass (by decide) (by decide) rv_X5_pass wc_X5_pass wk_RX5_79 wi_X5_pass wl_X5_pass wn_RX5 wd_X5_pass, List.forall_mem_cons.mpr ⟨mSite.V (idx := 82) ok_X1_redoubleOrDouble (by decide) (by decide) rv_X1_redoubleOrDouble wc_X1_redoubleOrDouble wk_RX5_82 wi_X1_redoubleOrDouble wl_X1_redoubleOrDouble wn_RX1 wd_X1_redoubleOrDouble, List.forall_mem_cons.mpr ⟨mSite.V (idx := 85) ok_X5_playCard (by decide) (by decide) rv_X5_playCard wc_X5_playCard wk_RX5_85 wi_X5_playCard wl_X5_playCard wn_RX5 wd_X5_playCard, List.forall_mem_cons.mpr ⟨mSite.V (idx := 88) ok_X5_claim (by decide) (by decide) rv_X5_claim wc_X5_claim wk_RX5_88 wi_X5_claim wl_X5_claim wn_RX5 wd_X5_claim, fun _ h => absurd h List.not_mem_nil⟩⟩⟩⟩⟩⟩) (fun _ => rfl)) run_X5_perform

