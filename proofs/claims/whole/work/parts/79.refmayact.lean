/-! ===== THE REFERENCE: may an act be; act ===== -/
def pre_X8_isTime (q : aZ × Nat) (as : List mV) (M : mM) : Prop := as = [.inr (some 50), .inl (nI q.2)] ∧ q.2 < 9 ∧ RpM M q.1 ∧ zInv q.1
def post_X8_isTime (q : aZ × Nat) (_ : List mV) (M : mM) (v : Int32) (M' : mM) : Prop := v = mb (dTime (zT q.1.2.1) q.2 = true) ∧ M' = M
abbrev t_X8_isTime : mG → mT := mRi pre_X8_isTime post_X8_isTime
theorem mo_X8_isTime : mMn t_X8_isTime := mRi_mono
theorem rv_X8_isTime : mHasR yX8_isTime 1 t_X8_isTime := by
  intro g as M P hT hl
  obtain ⟨q, ⟨h2, -⟩, -⟩ := hT
  exact ⟨_, _, h2, is_X8 g _ rfl⟩
def k_X8_isTime : List (Nat × mI) := [(0, .iload_n 1, 1, 1, 0, []),
  (1, .tableswitch 165 1 6 #[39, 39, 53, 99, 146, 160], 39, 166, 0, [(nI 1, 40), (nI 2, 40), (nI 3, 54), (nI 4, 100), (nI 5, 147), (nI 6, 161)]),
  (40, .aload_n 0, 1, 0, 0, []),
  (41, .getfield 100, 3, 0, 0, []),
  (44, .iconst 1, 1, 0, nI 1, []),
  (45, .if_icmp .ne 7, 3, 52, 0, []),
  (48, .iconst 1, 1, 0, nI 1, []),
  (49, .goto 4, 3, 53, 0, []),
  (52, .iconst 0, 1, 0, nI 0, []),
  (53, .ireturn, 1, 0, 0, []),
  (54, .aload_n 0, 1, 0, 0, []),
  (55, .getfield 100, 3, 0, 0, []),
  (58, .iconst 1, 1, 0, nI 1, []),
  (59, .if_icmp .ne 39, 3, 98, 0, []),
  (62, .aload_n 0, 1, 0, 0, []),
  (63, .getfield 85, 3, 0, 0, []),
  (66, .iconst (-1), 1, 0, -1, []),
  (67, .if_icmp .eq 31, 3, 98, 0, []),
  (70, .aload_n 0, 1, 0, 0, []),
  (71, .getfield 88, 3, 0, 0, []),
  (74, .invokestatic 151, 3, 0, 0, []),
  (77, .aload_n 0, 1, 0, 0, []),
  (78, .getfield 103, 3, 0, 0, []),
  (81, .invokestatic 151, 3, 0, 0, []),
  (84, .if_icmp .eq 14, 3, 98, 0, []),
  (87, .aload_n 0, 1, 0, 0, []),
  (88, .getfield 91, 3, 0, 0, []),
  (91, .ifCond .ne 7, 3, 98, 0, []),
  (94, .iconst 1, 1, 0, nI 1, []),
  (95, .goto 4, 3, 99, 0, []),
  (98, .iconst 0, 1, 0, nI 0, []),
  (99, .ireturn, 1, 0, 0, []),
  (100, .aload_n 0, 1, 0, 0, []),
  (101, .getfield 100, 3, 0, 0, []),
  (104, .iconst 1, 1, 0, nI 1, []),
  (105, .if_icmp .ne 40, 3, 145, 0, []),
  (108, .aload_n 0, 1, 0, 0, []),
  (109, .getfield 85, 3, 0, 0, []),
  (112, .iconst (-1), 1, 0, -1, []),
  (113, .if_icmp .eq 32, 3, 145, 0, []),
  (116, .aload_n 0, 1, 0, 0, []),
  (117, .getfield 88, 3, 0, 0, []),
  (120, .invokestatic 151, 3, 0, 0, []),
  (123, .aload_n 0, 1, 0, 0, []),
  (124, .getfield 103, 3, 0, 0, []),
  (127, .invokestatic 151, 3, 0, 0, []),
  (130, .if_icmp .ne 15, 3, 145, 0, []),
  (133, .aload_n 0, 1, 0, 0, []),
  (134, .getfield 91, 3, 0, 0, []),
  (137, .iconst 1, 1, 0, nI 1, []),
  (138, .if_icmp .ne 7, 3, 145, 0, []),
  (141, .iconst 1, 1, 0, nI 1, []),
  (142, .goto 4, 3, 146, 0, []),
  (145, .iconst 0, 1, 0, nI 0, []),
  (146, .ireturn, 1, 0, 0, []),
  (147, .aload_n 0, 1, 0, 0, []),
  (148, .getfield 100, 3, 0, 0, []),
  (151, .iconst 2, 1, 0, nI 2, []),
  (152, .if_icmp .ne 7, 3, 159, 0, []),
  (155, .iconst 1, 1, 0, nI 1, []),
  (156, .goto 4, 3, 160, 0, []),
  (159, .iconst 0, 1, 0, nI 0, []),
  (160, .ireturn, 1, 0, 0, []),
  (161, .aload_n 0, 1, 0, 0, []),
  (162, .invokevirtual 207, 3, 0, 0, []),
  (165, .ireturn, 1, 0, 0, []),
  (166, .aload_n 0, 1, 0, 0, []),
  (167, .getfield 100, 3, 0, 0, []),
  (170, .ifCond .ne 7, 3, 177, 0, []),
  (173, .iconst 1, 1, 0, nI 1, []),
  (174, .goto 4, 3, 178, 0, []),
  (177, .iconst 0, 1, 0, nI 0, []),
  (178, .ireturn, 1, 0, 0, [])]
theorem kk_X8_isTime : (k_X8_isTime.all fun e => mChk cX8_isTime e.1 e.2) = true := by decide +kernel
def l_X8_isTime : List (Nat × Nat × (mG → mT)) := [(3 * 151 + 1, 1, t_X8_side), (3 * 207, 0 + 1, t_X8_isLate)]
def f_X8_isTime (g : mG) : mF := (mLk k_X8_isTime, mLk fl_RX8, mLk (l_X8_isTime.map fun e => (e.1, e.2.1, e.2.2 g)), mLk ([] : List (Nat × mV)), mLk ([] : List (Nat × mV)), some .boolean)
theorem m_X8_isTime (g : mG) : mMono (f_X8_isTime g) := mMonoL (g := g) (l := l_X8_isTime) (List.forall_mem_cons.mpr ⟨mo_X8_side, List.forall_mem_cons.mpr ⟨mo_X8_isLate, fun _ h => absurd h List.not_mem_nil⟩⟩) rfl

set_option maxRecDepth 100000 in
theorem w_it (g : mG) (M : mM) (P : mP) (w : Int32)
    (h : (w = (nI 1) → (¬ (M 50 5) = (nI 1) → ((nI 0) = 0 ∨ (nI 0) = 1) ∧ P (some (.inl (nI 0))) M) ∧ (¬ (¬ (M 50 5) = (nI 1)) → ((nI 1) = 0 ∨ (nI 1) = 1) ∧ P (some (.inl (nI 1))) M)) ∧ (¬ w = (nI 1) → (w = (nI 2) → (¬ (M 50 5) = (nI 1) → ((nI 0) = 0 ∨ (nI 0) = 1) ∧ P (some (.inl (nI 0))) M) ∧ (¬ (¬ (M 50 5) = (nI 1)) → ((nI 1) = 0 ∨ (nI 1) = 1) ∧ P (some (.inl (nI 1))) M)) ∧ (¬ w = (nI 2) → (w = (nI 3) → (¬ (M 50 5) = (nI 1) → ((nI 0) = 0 ∨ (nI 0) = 1) ∧ P (some (.inl (nI 0))) M) ∧ (¬ (¬ (M 50 5) = (nI 1)) → ((M 50 10) = (-1) → ((nI 0) = 0 ∨ (nI 0) = 1) ∧ P (some (.inl (nI 0))) M) ∧ (¬ ((M 50 10) = (-1)) → ((fSide (M 50 11)) = (fSide (M 50 6)) → ((nI 0) = 0 ∨ (nI 0) = 1) ∧ P (some (.inl (nI 0))) M) ∧ (¬ ((fSide (M 50 11)) = (fSide (M 50 6))) → (¬ (M 50 12) = 0 → ((nI 0) = 0 ∨ (nI 0) = 1) ∧ P (some (.inl (nI 0))) M) ∧ (¬ (¬ (M 50 12) = 0) → ((nI 1) = 0 ∨ (nI 1) = 1) ∧ P (some (.inl (nI 1))) M))))) ∧ (¬ w = (nI 3) → (w = (nI 4) → (¬ (M 50 5) = (nI 1) → ((nI 0) = 0 ∨ (nI 0) = 1) ∧ P (some (.inl (nI 0))) M) ∧ (¬ (¬ (M 50 5) = (nI 1)) → ((M 50 10) = (-1) → ((nI 0) = 0 ∨ (nI 0) = 1) ∧ P (some (.inl (nI 0))) M) ∧ (¬ ((M 50 10) = (-1)) → (¬ (fSide (M 50 11)) = (fSide (M 50 6)) → ((nI 0) = 0 ∨ (nI 0) = 1) ∧ P (some (.inl (nI 0))) M) ∧ (¬ (¬ (fSide (M 50 11)) = (fSide (M 50 6))) → (¬ (M 50 12) = (nI 1) → ((nI 0) = 0 ∨ (nI 0) = 1) ∧ P (some (.inl (nI 0))) M) ∧ (¬ (¬ (M 50 12) = (nI 1)) → ((nI 1) = 0 ∨ (nI 1) = 1) ∧ P (some (.inl (nI 1))) M))))) ∧ (¬ w = (nI 4) → (w = (nI 5) → (¬ (M 50 5) = (nI 2) → ((nI 0) = 0 ∨ (nI 0) = 1) ∧ P (some (.inl (nI 0))) M) ∧ (¬ (¬ (M 50 5) = (nI 2)) → ((nI 1) = 0 ∨ (nI 1) = 1) ∧ P (some (.inl (nI 1))) M)) ∧ (¬ w = (nI 5) → (w = (nI 6) → (¬ (M 50 5) = (nI 2) → ((nI 0) = 0 ∨ (nI 0) = 1) ∧ (((nI 0) = 0 ∨ (nI 0) = 1) ∧ P (some (.inl (nI 0))) M)) ∧ (¬ (¬ (M 50 5) = (nI 2)) → ((nI 3) < ((nI 8) - (M 50 19)) → ((nI 0) = 0 ∨ (nI 0) = 1) ∧ (((nI 0) = 0 ∨ (nI 0) = 1) ∧ P (some (.inl (nI 0))) M)) ∧ (¬ ((nI 3) < ((nI 8) - (M 50 19))) → ((nI 1) = 0 ∨ (nI 1) = 1) ∧ (((nI 1) = 0 ∨ (nI 1) = 1) ∧ P (some (.inl (nI 1))) M)))) ∧ (¬ w = (nI 6) → (¬ (M 50 5) = 0 → ((nI 0) = 0 ∨ (nI 0) = 1) ∧ P (some (.inl (nI 0))) M) ∧ (¬ (¬ (M 50 5) = 0) → ((nI 1) = 0 ∨ (nI 1) = 1) ∧ P (some (.inl (nI 1))) M)))))))) :
    mRun (mSx g) (f_X8_isTime g) P (0, [some (.inr (some 50)), some (.inl w)], [], M) := mRun.vc (m_X8_isTime g) [] 24 h

theorem run_X8_isTime : mRunOf 2 t_X8_isTime f_X8_isTime := fun g as M P hT => by
  obtain ⟨⟨z, w⟩, ⟨rfl, hw, hR, hI⟩, hP⟩ := hT
  refine ⟨Nat.le_of_ble_eq_true rfl, ?_⟩
  dsimp only at hw hR hI hP
  have hTI := hI.T
  have hQ : ∀ b : Bool, b = dTime (zT z.2.1) w → P (some (.inl (mb (b = true)))) M := fun b e => hP _ M ⟨by rw [e], rfl⟩
  have qf : dTime (zT z.2.1) w = false → (nI 0 = 0 ∨ nI 0 = 1) ∧ P (some (.inl (nI 0))) M := fun e => ⟨Or.inl rfl, hQ false e.symm⟩
  have qt : dTime (zT z.2.1) w = true → (nI 1 = 0 ∨ nI 1 = 1) ∧ P (some (.inl (nI 1))) M := fun e => ⟨Or.inr rfl, hQ true e.symm⟩
  have e5 : M 50 5 = nI (zT z.2.1).1.1 := hR.T.1.1
  have e6 : M 50 6 = turnI (zT z.2.1) := hR.T.1.2.1
  have e10 : M 50 10 = oI ((zT z.2.1).2.1.2.1.map fun q => q.1) := hR.T.2.1.2.2.1
  have e11 : M 50 11 = oI ((zT z.2.1).2.1.2.1.map fun q => q.2.2) := hR.T.2.1.2.2.2.1
  have e12 : M 50 12 = nI (zT z.2.1).2.1.1.2.1 := hR.T.2.1.2.2.2.2.1
  have e19 : M 50 19 = nI ((zT z.2.1).2.2.1.2.2.2.2.length / 4) := hR.T.2.2.1.1
  have hl := hTI.len
  have hp : ∀ k, k ≤ 2 → (nI (zT z.2.1).1.1 = nI k ↔ (zT z.2.1).1.1 = k) := fun k hk => nI_at2 hTI.1.1 hk
  have hp0 : nI (zT z.2.1).1.1 = 0 ↔ (zT z.2.1).1.1 = 0 := hp 0 (by decide)
  have hd2 := hTI.2.1.2.1
  have h12a : nI (zT z.2.1).2.1.1.2.1 = 0 ↔ (zT z.2.1).2.1.1.2.1 = 0 := nI_eq (b := 0) (by omega) (by decide)
  have h12b : nI (zT z.2.1).2.1.1.2.1 = nI 1 ↔ (zT z.2.1).2.1.1.2.1 = 1 := nI_eq (by omega) (by decide)
  have hb := hTI.2.1.2.2.2.1
  have ht := hTI.2.1.1
  -- a bid stands, and by whom
  have bidc : (zT z.2.1).1.1 = 1 → ((zT z.2.1).2.1.2.1 = none ∧ M 50 10 = -1) ∨ ((zT z.2.1).2.1.2.1.isSome = true ∧ ¬ M 50 10 = -1 ∧ (fSide (M 50 11) = fSide (M 50 6) ↔ dSame (zT z.2.1) = true)) := fun k1 => by
    cases ho : (zT z.2.1).2.1.2.1 with
    | none => exact Or.inl ⟨rfl, by rw [e10, ho]; rfl⟩
    | some v =>
      obtain ⟨n, t, q⟩ := v
      have hv := hb n t q ho
      refine Or.inr ⟨rfl, ?_, ?_⟩
      · rw [e10, ho]
        exact ne_m1 (show n < 2 ^ 31 by omega)
      · rw [e11, e6, turnI_1 k1, ho]
        show fSide (nI q) = fSide (nI _) ↔ _
        rw [fSide_nI (by omega), fSide_nI (by omega), nI_eq (by omega) (by omega)]
        unfold dSame
        rw [ho]
        simp
  refine w_it g M P _ ?_
  dsimp only
  rw [e5, hp 1 (by decide), hp 2 (by decide), hp0, e12, h12a, h12b, e19, pk_sub (by omega), nI_ltI (by decide) (by omega)]
  refine ⟨fun z1 => ?_, fun n1 => ⟨fun z2 => ?_, fun n2 => ⟨fun z3 => ?_, fun n3 => ⟨fun z4 => ?_, fun n4 => ⟨fun z5 => ?_, fun n5 => ⟨fun z6 => ?_, fun n6 => ?_⟩⟩⟩⟩⟩⟩
  · obtain rfl := (nI_eq (by omega) (by decide)).mp z1
    refine ⟨fun k => qf ?_, fun k => qt ?_⟩ <;> unfold dTime <;> rw [if_pos (Or.inl rfl)]
    · exact decide_eq_false k
    · exact decide_eq_true (Classical.not_not.mp k)
  · obtain rfl := (nI_eq (by omega) (by decide)).mp z2
    refine ⟨fun k => qf ?_, fun k => qt ?_⟩ <;> unfold dTime <;> rw [if_pos (Or.inr rfl)]
    · exact decide_eq_false k
    · exact decide_eq_true (Classical.not_not.mp k)
  · obtain rfl := (nI_eq (by omega) (by decide)).mp z3
    have e : dTime (zT z.2.1) 3 = (decide ((zT z.2.1).1.1 = 1) && ((zT z.2.1).2.1.2.1.isSome && (!dSame (zT z.2.1) && decide ((zT z.2.1).2.1.1.2.1 = 0)))) := by unfold dTime; rw [if_neg (by decide), if_pos rfl]
    rw [e] at qf qt
    refine ⟨fun k => qf (by rw [decide_eq_false k]; rfl), fun k => ?_⟩
    have k1 := Classical.not_not.mp k
    rw [decide_eq_true k1, Bool.true_and] at qf qt
    rcases bidc k1 with ⟨b1, b2⟩ | ⟨b1, b2, b3⟩
    · rw [b1] at qf
      exact ⟨fun _ => qf rfl, fun y => absurd b2 y⟩
    · rw [b1, Bool.true_and] at qf qt
      rw [b3]
      refine ⟨fun y => absurd y b2, fun _ => ⟨fun y => qf (by rw [y]; rfl), fun y => ⟨fun d => qf (by rw [decide_eq_false d, Bool.and_false]), fun d => qt ?_⟩⟩⟩
      rw [Bool.eq_false_iff.mpr y, decide_eq_true (Classical.not_not.mp d)]
      rfl
  · obtain rfl := (nI_eq (by omega) (by decide)).mp z4
    have e : dTime (zT z.2.1) 4 = (decide ((zT z.2.1).1.1 = 1) && ((zT z.2.1).2.1.2.1.isSome && (dSame (zT z.2.1) && decide ((zT z.2.1).2.1.1.2.1 = 1)))) := by unfold dTime; rw [if_neg (by decide), if_neg (by decide), if_pos rfl]
    rw [e] at qf qt
    refine ⟨fun k => qf (by rw [decide_eq_false k]; rfl), fun k => ?_⟩
    have k1 := Classical.not_not.mp k
    rw [decide_eq_true k1, Bool.true_and] at qf qt
    rcases bidc k1 with ⟨b1, b2⟩ | ⟨b1, b2, b3⟩
    · rw [b1] at qf
      exact ⟨fun _ => qf rfl, fun y => absurd b2 y⟩
    · rw [b1, Bool.true_and] at qf qt
      rw [b3]
      refine ⟨fun y => absurd y b2, fun _ => ⟨fun y => qf (by rw [Bool.eq_false_iff.mpr y]; rfl), fun y => ⟨fun d => qf (by rw [decide_eq_false d, Bool.and_false]), fun d => qt ?_⟩⟩⟩
      rw [Classical.not_not.mp y, decide_eq_true (Classical.not_not.mp d)]
      rfl
  · obtain rfl := (nI_eq (by omega) (by decide)).mp z5
    have e : dTime (zT z.2.1) 5 = decide ((zT z.2.1).1.1 = 2) := by unfold dTime; rw [if_neg (by decide), if_neg (by decide), if_neg (by decide), if_pos rfl]
    exact ⟨fun k => qf (by rw [e]; exact decide_eq_false k), fun k => qt (by rw [e]; exact decide_eq_true (Classical.not_not.mp k))⟩
  · obtain rfl := (nI_eq (by omega) (by decide)).mp z6
    have e : dTime (zT z.2.1) 6 = dLate (zT z.2.1) := by unfold dTime; rw [if_neg (by decide), if_neg (by decide), if_neg (by decide), if_neg (by decide), if_pos rfl]
    rw [e] at qf qt
    refine ⟨fun k => ⟨Or.inl rfl, qf ?_⟩, fun k => ⟨fun y => ⟨Or.inl rfl, qf ?_⟩, fun y => ⟨Or.inr rfl, qt ?_⟩⟩⟩
    · exact Bool.eq_false_iff.mpr (fun w => k (dLate_t.mp w).1)
    · exact Bool.eq_false_iff.mpr (fun w => by have := (dLate_t.mp w).2; omega)
    · exact dLate_t.mpr ⟨Classical.not_not.mp k, by omega⟩
  · have e : dTime (zT z.2.1) w = decide ((zT z.2.1).1.1 = 0) := by
      have m : ∀ k, k < 9 → ¬ nI w = nI k → ¬ w = k := fun k _ h y => h (by rw [y])
      unfold dTime
      rw [if_neg (fun y => y.elim (m 1 (by decide) n1) (m 2 (by decide) n2)), if_neg (m 3 (by decide) n3), if_neg (m 4 (by decide) n4), if_neg (m 5 (by decide) n5), if_neg (m 6 (by decide) n6)]
    exact ⟨fun k => qf (by rw [e]; exact decide_eq_false k), fun k => qt (by rw [e]; exact decide_eq_true (Classical.not_not.mp k))⟩
theorem ok_X8_isTime : mOK yX8_isTime cX8_isTime 2 (some .boolean) 2 t_X8_isTime := mOK.of f_X8_isTime (by decide) (fun _ => rfl) (fun g => mCodeOK kk_X8_isTime) (fun g => mFldL fk_RX8 rfl) (fun g idx v h => by cases h) (fun g idx v h => by cases h) (mCalL (l := l_X8_isTime) (List.forall_mem_cons.mpr ⟨mSite.S (idx := 151) ok_X8_side (by decide) (by decide) wc_X8_side wk_RX8_151 wt_X8_side wn_RX8 wd_X8_side, List.forall_mem_cons.mpr ⟨mSite.V (idx := 207) ok_X8_isLate (by decide) (by decide) rv_X8_isLate wc_X8_isLate wk_RX8_207 wi_X8_isLate wl_X8_isLate wn_RX8 wd_X8_isLate, fun _ h => absurd h List.not_mem_nil⟩⟩) (fun _ => rfl)) run_X8_isTime

def pre_X8_isNumber (q : Nat × Int32) (as : List mV) (M : mM) : Prop := as = [.inr (some 50), .inl (nI q.1)] ∧ q.1 < 9 ∧ M 50 38 = q.2
def post_X8_isNumber (q : Nat × Int32) (_ : List mV) (M : mM) (v : Int32) (M' : mM) : Prop := v = mb (dNum q.1 q.2 = true) ∧ M' = M
abbrev t_X8_isNumber : mG → mT := mRi pre_X8_isNumber post_X8_isNumber
theorem mo_X8_isNumber : mMn t_X8_isNumber := mRi_mono
theorem rv_X8_isNumber : mHasR yX8_isNumber 1 t_X8_isNumber := by
  intro g as M P hT hl
  obtain ⟨q, ⟨h2, -⟩, -⟩ := hT
  exact ⟨_, _, h2, is_X8 g _ rfl⟩
def k_X8_isNumber : List (Nat × mI) := [(0, .iload_n 1, 1, 1, 0, []),
  (1, .tableswitch 100 1 8 #[47, 100, 100, 100, 58, 69, 80, 90], 47, 101, 0, [(nI 1, 48), (nI 2, 101), (nI 3, 101), (nI 4, 101), (nI 5, 59), (nI 6, 70), (nI 7, 81), (nI 8, 91)]),
  (48, .aload_n 0, 1, 0, 0, []),
  (49, .getfield 298, 3, 0, 0, []),
  (52, .iconst 4, 1, 0, nI 4, []),
  (53, .bipush 8, 2, 0, nI 8, []),
  (55, .invokestatic 214, 3, 0, 0, []),
  (58, .ireturn, 1, 0, 0, []),
  (59, .aload_n 0, 1, 0, 0, []),
  (60, .getfield 298, 3, 0, 0, []),
  (63, .iconst 0, 1, 0, nI 0, []),
  (64, .bipush 7, 2, 0, nI 7, []),
  (66, .invokestatic 214, 3, 0, 0, []),
  (69, .ireturn, 1, 0, 0, []),
  (70, .aload_n 0, 1, 0, 0, []),
  (71, .getfield 298, 3, 0, 0, []),
  (74, .iconst 0, 1, 0, nI 0, []),
  (75, .bipush 8, 2, 0, nI 8, []),
  (77, .invokestatic 214, 3, 0, 0, []),
  (80, .ireturn, 1, 0, 0, []),
  (81, .aload_n 0, 1, 0, 0, []),
  (82, .getfield 298, 3, 0, 0, []),
  (85, .iconst 0, 1, 0, nI 0, []),
  (86, .iconst 3, 1, 0, nI 3, []),
  (87, .invokestatic 214, 3, 0, 0, []),
  (90, .ireturn, 1, 0, 0, []),
  (91, .aload_n 0, 1, 0, 0, []),
  (92, .getfield 298, 3, 0, 0, []),
  (95, .iconst 0, 1, 0, nI 0, []),
  (96, .iconst 2, 1, 0, nI 2, []),
  (97, .invokestatic 214, 3, 0, 0, []),
  (100, .ireturn, 1, 0, 0, []),
  (101, .iconst 1, 1, 0, nI 1, []),
  (102, .ireturn, 1, 0, 0, [])]
theorem kk_X8_isNumber : (k_X8_isNumber.all fun e => mChk cX8_isNumber e.1 e.2) = true := by decide +kernel
def l_X8_isNumber : List (Nat × Nat × (mG → mT)) := [(3 * 214 + 1, 3, t_X8_in)]
def f_X8_isNumber (g : mG) : mF := (mLk k_X8_isNumber, mLk fl_RX8, mLk (l_X8_isNumber.map fun e => (e.1, e.2.1, e.2.2 g)), mLk ([] : List (Nat × mV)), mLk ([] : List (Nat × mV)), some .boolean)
theorem m_X8_isNumber (g : mG) : mMono (f_X8_isNumber g) := mMonoL (g := g) (l := l_X8_isNumber) (List.forall_mem_cons.mpr ⟨mo_X8_in, fun _ h => absurd h List.not_mem_nil⟩) rfl

set_option maxRecDepth 100000 in
theorem w_in (g : mG) (M : mM) (P : mP) (w : Int32)
    (h : (w = (nI 1) → ((fIn (M 50 38) (nI 4) (nI 8)) = 0 ∨ (fIn (M 50 38) (nI 4) (nI 8)) = 1) ∧ P (some (.inl (fIn (M 50 38) (nI 4) (nI 8)))) M) ∧ (¬ w = (nI 1) → (w = (nI 2) → ((nI 1) = 0 ∨ (nI 1) = 1) ∧ P (some (.inl (nI 1))) M) ∧ (¬ w = (nI 2) → (w = (nI 3) → ((nI 1) = 0 ∨ (nI 1) = 1) ∧ P (some (.inl (nI 1))) M) ∧ (¬ w = (nI 3) → (w = (nI 4) → ((nI 1) = 0 ∨ (nI 1) = 1) ∧ P (some (.inl (nI 1))) M) ∧ (¬ w = (nI 4) → (w = (nI 5) → ((fIn (M 50 38) (nI 0) (nI 7)) = 0 ∨ (fIn (M 50 38) (nI 0) (nI 7)) = 1) ∧ P (some (.inl (fIn (M 50 38) (nI 0) (nI 7)))) M) ∧ (¬ w = (nI 5) → (w = (nI 6) → ((fIn (M 50 38) (nI 0) (nI 8)) = 0 ∨ (fIn (M 50 38) (nI 0) (nI 8)) = 1) ∧ P (some (.inl (fIn (M 50 38) (nI 0) (nI 8)))) M) ∧ (¬ w = (nI 6) → (w = (nI 7) → ((fIn (M 50 38) (nI 0) (nI 3)) = 0 ∨ (fIn (M 50 38) (nI 0) (nI 3)) = 1) ∧ P (some (.inl (fIn (M 50 38) (nI 0) (nI 3)))) M) ∧ (¬ w = (nI 7) → (w = (nI 8) → ((fIn (M 50 38) (nI 0) (nI 2)) = 0 ∨ (fIn (M 50 38) (nI 0) (nI 2)) = 1) ∧ P (some (.inl (fIn (M 50 38) (nI 0) (nI 2)))) M) ∧ (¬ w = (nI 8) → ((nI 1) = 0 ∨ (nI 1) = 1) ∧ P (some (.inl (nI 1))) M))))))))) :
    mRun (mSx g) (f_X8_isNumber g) P (0, [some (.inr (some 50)), some (.inl w)], [], M) := mRun.vc (m_X8_isNumber g) [] 8 h

theorem fIn_and {x lo hi : Int32} : fIn x lo hi = mb ((decide (lo ≤ x) && decide (x ≤ hi)) = true) := by
  unfold fIn
  refine mb_congr ?_
  rw [Bool.and_eq_true, decide_eq_true_eq, decide_eq_true_eq]
theorem le_lt1 {x : Int32} {n : Nat} (hn : n < 1000) : decide (x ≤ nI n) = decide (x < nI (n + 1)) := by
  refine decide_eq_decide.mpr ?_
  simp (disch := omega) only [fa_le, fa_lt, nI_toInt]
  omega
theorem run_X8_isNumber : mRunOf 2 t_X8_isNumber f_X8_isNumber := fun g as M P hT => by
  obtain ⟨⟨w, n⟩, ⟨rfl, hw, hn⟩, hP⟩ := hT
  refine ⟨Nat.le_of_ble_eq_true rfl, ?_⟩
  dsimp only at hw hn hP
  have hQ : ∀ b : Bool, b = dNum w n → P (some (.inl (mb (b = true)))) M := fun b e => hP _ M ⟨by rw [e], rfl⟩
  have yes : dNum w n = true → (nI 1 = 0 ∨ nI 1 = 1) ∧ P (some (.inl (nI 1))) M := fun e => ⟨Or.inr rfl, hQ true e.symm⟩
  refine w_in g M P _ ?_
  dsimp only
  rw [hn, fIn_and, fIn_and, fIn_and, fIn_and, fIn_and]
  refine ⟨fun z1 => ⟨mb_01, ?_⟩, fun n1 => ⟨fun z2 => yes ?_, fun n2 => ⟨fun z3 => yes ?_, fun n3 => ⟨fun z4 => yes ?_, fun n4 => ⟨fun z5 => ⟨mb_01, ?_⟩, fun n5 => ⟨fun z6 => ⟨mb_01, ?_⟩, fun n6 => ⟨fun z7 => ⟨mb_01, ?_⟩, fun n7 => ⟨fun z8 => ⟨mb_01, ?_⟩, fun n8 => yes ?_⟩⟩⟩⟩⟩⟩⟩⟩
  · obtain rfl := (nI_eq (by omega) (by decide)).mp z1
    refine hQ _ ?_
    unfold dNum
    rw [if_pos rfl]
  · obtain rfl := (nI_eq (by omega) (by decide)).mp z2
    rfl
  · obtain rfl := (nI_eq (by omega) (by decide)).mp z3
    rfl
  · obtain rfl := (nI_eq (by omega) (by decide)).mp z4
    rfl
  · obtain rfl := (nI_eq (by omega) (by decide)).mp z5
    refine hQ _ ?_
    unfold dNum
    rw [if_neg (by decide), if_pos rfl, le_lt1 (by decide)]
    rfl
  · obtain rfl := (nI_eq (by omega) (by decide)).mp z6
    refine hQ _ ?_
    unfold dNum
    rw [if_neg (by decide), if_neg (by decide), if_pos rfl]
    rfl
  · obtain rfl := (nI_eq (by omega) (by decide)).mp z7
    refine hQ _ ?_
    unfold dNum
    rw [if_neg (by decide), if_neg (by decide), if_neg (by decide), if_pos rfl, le_lt1 (by decide)]
    rfl
  · obtain rfl := (nI_eq (by omega) (by decide)).mp z8
    refine hQ _ ?_
    unfold dNum
    rw [if_neg (by decide), if_neg (by decide), if_neg (by decide), if_neg (by decide), if_pos rfl, le_lt1 (by decide)]
    rfl
  · have m : ∀ k, k < 9 → ¬ nI w = nI k → ¬ w = k := fun k _ h y => h (by rw [y])
    unfold dNum
    rw [if_neg (m 1 (by decide) n1), if_neg (m 5 (by decide) n5), if_neg (m 6 (by decide) n6), if_neg (m 7 (by decide) n7), if_neg (m 8 (by decide) n8)]
theorem ok_X8_isNumber : mOK yX8_isNumber cX8_isNumber 2 (some .boolean) 2 t_X8_isNumber := mOK.of f_X8_isNumber (by decide) (fun _ => rfl) (fun g => mCodeOK kk_X8_isNumber) (fun g => mFldL fk_RX8 rfl) (fun g idx v h => by cases h) (fun g idx v h => by cases h) (mCalL (l := l_X8_isNumber) (List.forall_mem_cons.mpr ⟨mSite.S (idx := 214) ok_X8_in (by decide) (by decide) wc_X8_in wk_RX8_214 wt_X8_in wn_RX8 wd_X8_in, fun _ h => absurd h List.not_mem_nil⟩) (fun _ => rfl)) run_X8_isNumber

/-- open again, and what it leaves untouched -/
def pre2_X8_open (q : aZ) (as : List mV) (M : mM) : Prop := as = [.inr (some 50)] ∧ RpM M q ∧ zInv q ∧ dLate (zT q.2.1) = true
def post2_X8_open (q : aZ) (_ : List mV) (M : mM) (v : Int32) (M' : mM) : Prop := v = nI (tO (zT q.2.1)) ∧ RpM M' q ∧ FrQ M M'
abbrev t2_X8_open : mG → mT := mRi pre2_X8_open post2_X8_open
theorem mo2_X8_open : mMn t2_X8_open := mRi_mono
theorem rv2_X8_open : mHasR yX8_open 0 t2_X8_open := by
  intro g as M P hT hl
  obtain ⟨q, ⟨h2, -⟩, -⟩ := hT
  exact ⟨_, _, h2, is_X8 g _ rfl⟩
theorem run2_X8_open : mRunOf 1 t2_X8_open f_X8_open := fun g as M P hT => by
  obtain ⟨z, ⟨rfl, hR, hI, h⟩, hP⟩ := hT
  refine ⟨Nat.le_of_ble_eq_true rfl, ?_⟩
  have hTI := hI.T
  have hQ : ∀ v M', v = nI (tO (zT z.2.1)) → RpM M' z → FrQ M M' → P (some (.inl v)) M' := fun v M' a b c => hP v M' ⟨a, b, c⟩
  refine w_open g M P (late_cs (X := True) hR hI (fun h' => absurd (h.symm.trans h') (by decide)) (fun h => ⟨fun w => absurd w (by decide), fun _ => ?_⟩))
  obtain ⟨l1, l2⟩ := late_20 h
  obtain ⟨k1, k2, -⟩ := hTI.play l1
  refine ⟨((zT z.2.1).2.2.1.1, (zT z.2.1).2.2.1.2.1, (zT z.2.1).2.2.1.2.2.2.2), ⟨rfl, hR.T.Q hTI l1, k1, by show 33 ≤ (zT z.2.1).2.2.1.2.2.2.2.length + 13; omega⟩, fun r M4 hr => ?_⟩
  obtain ⟨hv, hQ4, hF4⟩ := hr
  dsimp only at hv hQ4
  have hR4 := hR.R (hR.T.of hTI l1 hQ4 hF4) hF4.R
  have ho := aO_R k1
  have hle := aR_le k1
  have hs2 := aSd_lt (x := (zT z.2.1).2.2.1.1) (cs := (zT z.2.1).2.2.1.2.2.2.2)
  have e19 : M4 50 19 = nI ((zT z.2.1).2.2.1.2.2.2.2.length / 4) := hQ4.1.1
  rw [sideM hQ4, hv, e19]
  refine ⟨fun w => ?_, fun w => ?_⟩
  · have w' : ¬ aSd (zT z.2.1).2.2.1.1 (zT z.2.1).2.2.1.2.2.2.2 = 0 := fun y => w (by rw [y]; rfl)
    refine hQ _ _ ?_ hR4 hF4
    rw [pk_sub (by omega), pk_sub hle]
    unfold tO
    rw [ho.2 (by omega)]
  · have w' := (nI_eq (b := 0) (by omega) (by decide)).mp (Classical.not_not.mp w)
    refine hQ _ _ ?_ hR4 hF4
    unfold tO
    rw [ho.1 w']
theorem ok2_X8_open : mOK yX8_open cX8_open 1 (some .int) 33 t2_X8_open := mOK.of f_X8_open (by decide) (fun _ => rfl) (fun g => mCodeOK kk_X8_open) (fun g => mFldL fk_RX8 rfl) (fun g idx v h => by cases h) (fun g idx v h => by cases h) (mCalL (l := l_X8_open) (List.forall_mem_cons.mpr ⟨mSite.V (idx := 207) ok_X8_isLate (by decide) (by decide) rv_X8_isLate wc_X8_isLate wk_RX8_207 wi_X8_isLate wl_X8_isLate wn_RX8 wd_X8_isLate, List.forall_mem_cons.mpr ⟨mSite.V (idx := 198) (ok_X8_solved 13) (by decide) (by decide) rv_X8_solved wc_X8_solved wk_RX8_198 wi_X8_solved wl_X8_solved wn_RX8 wd_X8_solved, List.forall_mem_cons.mpr ⟨mSite.V (idx := 211) ok_X8_forTurn (by decide) (by decide) rv_X8_forTurn wc_X8_forTurn wk_RX8_211 wi_X8_forTurn wl_X8_forTurn wn_RX8 wd_X8_forTurn, fun _ h => absurd h List.not_mem_nil⟩⟩⟩) (fun _ => rfl)) run2_X8_open

def pre_X8_isFair (q : aZ × Nat × Int32 × Int32) (as : List mV) (M : mM) : Prop := as = [.inr (some 50), .inl (nI q.2.1)] ∧ q.2.1 < 9 ∧ RpM M q.1 ∧ zInv q.1 ∧ dTime (zT q.1.2.1) q.2.1 = true ∧ dNum q.2.1 q.2.2.1 = true ∧ M 50 38 = q.2.2.1 ∧ M 50 39 = q.2.2.2 ∧ (q.2.1 = 5 → ub q.2.2.1 < 8 ∧ ub q.2.2.2 < 4)
def post_X8_isFair (q : aZ × Nat × Int32 × Int32) (_ : List mV) (M : mM) (v : Int32) (M' : mM) : Prop := v = mb (dFair (zT q.1.2.1) q.2.1 q.2.2.1 q.2.2.2 = true) ∧ RpM M' q.1 ∧ FrQ M M'
abbrev t_X8_isFair : mG → mT := mRi pre_X8_isFair post_X8_isFair
theorem mo_X8_isFair : mMn t_X8_isFair := mRi_mono
theorem rv_X8_isFair : mHasR yX8_isFair 1 t_X8_isFair := by
  intro g as M P hT hl
  obtain ⟨q, ⟨h2, -⟩, -⟩ := hT
  exact ⟨_, _, h2, is_X8 g _ rfl⟩
def k_X8_isFair : List (Nat × mI) := [(0, .iload_n 1, 1, 1, 0, []),
  (1, .iconst 1, 1, 0, nI 1, []),
  (2, .if_icmp .ne 50, 3, 52, 0, []),
  (5, .aload_n 0, 1, 0, 0, []),
  (6, .getfield 85, 3, 0, 0, []),
  (9, .iconst (-1), 1, 0, -1, []),
  (10, .if_icmp .eq 36, 3, 46, 0, []),
  (13, .aload_n 0, 1, 0, 0, []),
  (14, .getfield 298, 3, 0, 0, []),
  (17, .aload_n 0, 1, 0, 0, []),
  (18, .getfield 85, 3, 0, 0, []),
  (21, .if_icmp .gt 25, 3, 46, 0, []),
  (24, .aload_n 0, 1, 0, 0, []),
  (25, .getfield 298, 3, 0, 0, []),
  (28, .aload_n 0, 1, 0, 0, []),
  (29, .getfield 85, 3, 0, 0, []),
  (32, .if_icmp .ne 18, 3, 50, 0, []),
  (35, .aload_n 0, 1, 0, 0, []),
  (36, .getfield 301, 3, 0, 0, []),
  (39, .aload_n 0, 1, 0, 0, []),
  (40, .getfield 82, 3, 0, 0, []),
  (43, .if_icmp .le 7, 3, 50, 0, []),
  (46, .iconst 1, 1, 0, nI 1, []),
  (47, .goto 4, 3, 51, 0, []),
  (50, .iconst 0, 1, 0, nI 0, []),
  (51, .ireturn, 1, 0, 0, []),
  (52, .iload_n 1, 1, 1, 0, []),
  (53, .iconst 5, 1, 0, nI 5, []),
  (54, .if_icmp .ne 23, 3, 77, 0, []),
  (57, .aload_n 0, 1, 0, 0, []),
  (58, .invokevirtual 201, 3, 0, 0, []),
  (61, .bipush 8, 2, 0, nI 8, []),
  (63, .aload_n 0, 1, 0, 0, []),
  (64, .getfield 301, 3, 0, 0, []),
  (67, .imul, 1, 0, 0, []),
  (68, .aload_n 0, 1, 0, 0, []),
  (69, .getfield 298, 3, 0, 0, []),
  (72, .iadd, 1, 0, 0, []),
  (73, .invokestatic 139, 3, 0, 0, []),
  (76, .ireturn, 1, 0, 0, []),
  (77, .iload_n 1, 1, 1, 0, []),
  (78, .bipush 6, 2, 0, nI 6, []),
  (80, .if_icmp .ne 28, 3, 108, 0, []),
  (83, .aload_n 0, 1, 0, 0, []),
  (84, .getfield 298, 3, 0, 0, []),
  (87, .bipush 8, 2, 0, nI 8, []),
  (89, .aload_n 0, 1, 0, 0, []),
  (90, .getfield 97, 3, 0, 0, []),
  (93, .isub, 1, 0, 0, []),
  (94, .if_icmp .gt 18, 3, 112, 0, []),
  (97, .aload_n 0, 1, 0, 0, []),
  (98, .getfield 298, 3, 0, 0, []),
  (101, .aload_n 0, 1, 0, 0, []),
  (102, .invokevirtual 305, 3, 0, 0, []),
  (105, .if_icmp .gt 7, 3, 112, 0, []),
  (108, .iconst 1, 1, 0, nI 1, []),
  (109, .goto 4, 3, 113, 0, []),
  (112, .iconst 0, 1, 0, nI 0, []),
  (113, .ireturn, 1, 0, 0, [])]
theorem kk_X8_isFair : (k_X8_isFair.all fun e => mChk cX8_isFair e.1 e.2) = true := by decide +kernel
def l_X8_isFair : List (Nat × Nat × (mG → mT)) := [(3 * 201, 0 + 1, t_X8_mayPlay), (3 * 139 + 1, 2, t_X8_has), (3 * 305, 0 + 1, t2_X8_open)]
def f_X8_isFair (g : mG) : mF := (mLk k_X8_isFair, mLk fl_RX8, mLk (l_X8_isFair.map fun e => (e.1, e.2.1, e.2.2 g)), mLk ([] : List (Nat × mV)), mLk ([] : List (Nat × mV)), some .boolean)
theorem m_X8_isFair (g : mG) : mMono (f_X8_isFair g) := mMonoL (g := g) (l := l_X8_isFair) (List.forall_mem_cons.mpr ⟨mo_X8_mayPlay, List.forall_mem_cons.mpr ⟨mo_X8_has, List.forall_mem_cons.mpr ⟨mo2_X8_open, fun _ h => absurd h List.not_mem_nil⟩⟩⟩) rfl

set_option maxRecDepth 100000 in
theorem w_if (g : mG) (M : mM) (P : mP) (w : Int32)
    (h : (¬ w = (nI 1) → (¬ w = (nI 5) → (¬ w = (nI 6) → ((nI 1) = 0 ∨ (nI 1) = 1) ∧ P (some (.inl (nI 1))) M) ∧ (¬ (¬ w = (nI 6)) → (((nI 8) - (M 50 19)) < (M 50 38) → ((nI 0) = 0 ∨ (nI 0) = 1) ∧ P (some (.inl (nI 0))) M) ∧ (¬ (((nI 8) - (M 50 19)) < (M 50 38)) → ∃ x5 : aZ, pre2_X8_open x5 [.inr (some 50)] M ∧ ∀ (r7 : Int32) (M6 : mM), post2_X8_open x5 [.inr (some 50)] M r7 M6 → ((r7 < (M 50 38) → ((nI 0) = 0 ∨ (nI 0) = 1) ∧ P (some (.inl (nI 0))) M6) ∧ (¬ (r7 < (M 50 38)) → ((nI 1) = 0 ∨ (nI 1) = 1) ∧ P (some (.inl (nI 1))) M6))))) ∧ (¬ (¬ w = (nI 5)) → ∃ x9 : aX × (Nat → Int32) × List Nat, pre_X8_mayPlay x9 [.inr (some 50)] M ∧ ∀ (r11 : Int32) (M10 : mM), post_X8_mayPlay x9 [.inr (some 50)] M r11 M10 → (((fHas r11 (((nI 8) * (M10 50 39)) + (M10 50 38))) = 0 ∨ (fHas r11 (((nI 8) * (M10 50 39)) + (M10 50 38))) = 1) ∧ P (some (.inl (fHas r11 (((nI 8) * (M10 50 39)) + (M10 50 38))))) M10))) ∧ (¬ (¬ w = (nI 1)) → ((M 50 10) = (-1) → ((nI 1) = 0 ∨ (nI 1) = 1) ∧ P (some (.inl (nI 1))) M) ∧ (¬ ((M 50 10) = (-1)) → ((M 50 10) < (M 50 38) → ((nI 1) = 0 ∨ (nI 1) = 1) ∧ P (some (.inl (nI 1))) M) ∧ (¬ ((M 50 10) < (M 50 38)) → (¬ (M 50 38) = (M 50 10) → ((nI 0) = 0 ∨ (nI 0) = 1) ∧ P (some (.inl (nI 0))) M) ∧ (¬ (¬ (M 50 38) = (M 50 10)) → ((M 50 39) ≤ (M 50 9) → ((nI 0) = 0 ∨ (nI 0) = 1) ∧ P (some (.inl (nI 0))) M) ∧ (¬ ((M 50 39) ≤ (M 50 9)) → ((nI 1) = 0 ∨ (nI 1) = 1) ∧ P (some (.inl (nI 1))) M)))))) :
    mRun (mSx g) (f_X8_isFair g) P (0, [some (.inr (some 50)), some (.inl w)], [], M) := mRun.vc (m_X8_isFair g) [] 25 h

theorem run_X8_isFair : mRunOf 2 t_X8_isFair f_X8_isFair := fun g as M P hT => by
  obtain ⟨⟨z, w, n, s⟩, ⟨rfl, hw, hR, hI, ht, hnum, e38, e39, h5⟩, hP⟩ := hT
  refine ⟨Nat.le_of_ble_eq_true rfl, ?_⟩
  dsimp only at hw hR hI ht hnum e38 e39 h5 hP
  have hTI := hI.T
  have hl := hTI.len
  have hQ : ∀ (b : Bool) M', b = dFair (zT z.2.1) w n s → RpM M' z → FrQ M M' → P (some (.inl (mb (b = true)))) M' := fun b M' e h1 h2 => hP _ M' ⟨by rw [e], h1, h2⟩
  have qf : dFair (zT z.2.1) w n s = false → (nI 0 = 0 ∨ nI 0 = 1) ∧ P (some (.inl (nI 0))) M := fun e => ⟨Or.inl rfl, hQ false M e.symm hR FrQ.refl⟩
  have qt : dFair (zT z.2.1) w n s = true → (nI 1 = 0 ∨ nI 1 = 1) ∧ P (some (.inl (nI 1))) M := fun e => ⟨Or.inr rfl, hQ true M e.symm hR FrQ.refl⟩
  have e9 : M 50 9 = trumpI (zT z.2.1) := hR.T.2.1.2.1
  have e10 : M 50 10 = oI ((zT z.2.1).2.1.2.1.map fun q => q.1) := hR.T.2.1.2.2.1
  have e19 : M 50 19 = nI ((zT z.2.1).2.2.1.2.2.2.2.length / 4) := hR.T.2.2.1.1
  refine w_if g M P _ ?_
  dsimp only
  rw [e38, e39, e9, e10, e19]
  refine ⟨fun n1 => ⟨fun n5 => ⟨fun n6 => qt ?_, fun z6 => ?_⟩, fun z5 => ?_⟩, fun z1 => ?_⟩
  · have m : ∀ k, k < 9 → ¬ nI w = nI k → ¬ w = k := fun k _ h y => h (by rw [y])
    unfold dFair
    rw [if_neg (m 1 (by decide) n1), if_neg (m 5 (by decide) n5), if_neg (m 6 (by decide) n6)]
  · obtain rfl := (nI_eq (by omega) (by decide)).mp (Classical.not_not.mp z6)
    have e : dFair (zT z.2.1) 6 n s = decide (n ≤ nI (tO (zT z.2.1))) := by unfold dFair; rw [if_neg (by decide), if_neg (by decide), if_pos rfl]
    have hlate : dLate (zT z.2.1) = true := by
      have : dTime (zT z.2.1) 6 = dLate (zT z.2.1) := by unfold dTime; rw [if_neg (by decide), if_neg (by decide), if_neg (by decide), if_neg (by decide), if_pos rfl]
      rw [← this]
      exact ht
    have hle := tO_le hTI (late_20 hlate).1
    rw [e] at qf hQ
    rw [pk_sub (by omega)]
    refine ⟨fun y => qf (decide_eq_false (fun q => ?_)), fun y => ⟨z, ⟨rfl, hR, hI, hlate⟩, fun r M2 hr => ?_⟩⟩
    · have q1 := Int32.lt_of_lt_of_le y q
      rw [nI_ltI (by omega) (by omega)] at q1
      omega
    · obtain ⟨hv, hR2, hF2⟩ := hr
      have e38' : M2 50 38 = n := (hF2.2 38 (by decide) (by decide)).trans e38
      rw [hv]
      try rw [e38']
      exact ⟨fun q => ⟨Or.inl rfl, hQ false M2 (decide_eq_false (Int32.not_le.mpr q)).symm hR2 hF2⟩, fun q => ⟨Or.inr rfl, hQ true M2 (decide_eq_true (Int32.not_lt.mp q)).symm hR2 hF2⟩⟩
  · obtain rfl := (nI_eq (by omega) (by decide)).mp (Classical.not_not.mp z5)
    have e : dFair (zT z.2.1) 5 n s = bt (aAl (zT z.2.1).2.2.1.1 (zT z.2.1).2.2.1.2.1 (zT z.2.1).2.2.1.2.2.2.2) (8 * ub s + ub n) := by unfold dFair; rw [if_neg (by decide), if_pos rfl]
    have k2 : (zT z.2.1).1.1 = 2 := by
      have : dTime (zT z.2.1) 5 = decide ((zT z.2.1).1.1 = 2) := by unfold dTime; rw [if_neg (by decide), if_neg (by decide), if_neg (by decide), if_pos rfl]
      rw [this] at ht
      exact of_decide_eq_true ht
    obtain ⟨g1, g2⟩ := h5 rfl
    obtain ⟨a1, a2, -⟩ := hTI.play k2
    refine ⟨((zT z.2.1).2.2.1.1, (zT z.2.1).2.2.1.2.1, (zT z.2.1).2.2.1.2.2.2.2), ⟨rfl, hR.T.Q hTI k2, a1, a2⟩, fun r M2 hr => ?_⟩
    obtain ⟨hv, h2⟩ := hr
    have hv' : r = aAl (zT z.2.1).2.2.1.1 (zT z.2.1).2.2.1.2.1 (zT z.2.1).2.2.1.2.2.2.2 := hv
    have hc : nI 8 * s + n = nI (8 * ub s + ub n) := by
      rw [← nI_ub s, ← nI_ub n, pk_mul, nI_add, ub_nI (ub_lt s), ub_nI (ub_lt n)]
    rw [h2, hv', e38, e39, hc, fHas_eq (by omega)]
    exact ⟨mb_01, hQ _ M e.symm hR FrQ.refl⟩
  · obtain rfl := (nI_eq (by omega) (by decide)).mp (Classical.not_not.mp z1)
    have e : dFair (zT z.2.1) 1 n s = (decide (oI ((zT z.2.1).2.1.2.1.map fun q => q.1) < n) || (decide (n = oI ((zT z.2.1).2.1.2.1.map fun q => q.1)) && decide (trumpI (zT z.2.1) < s))) := by unfold dFair; rw [if_pos rfl]
    rw [e] at qf qt
    have hn4 : -1 < n := by
      have : dNum 1 n = (decide (nI 4 ≤ n) && decide (n ≤ nI 8)) := by unfold dNum; rw [if_pos rfl]
      rw [this, Bool.and_eq_true, decide_eq_true_eq] at hnum
      have := hnum.1
      simp (disch := omega) only [fa_le, fa_lt, nI_toInt, toInt_m1] at this ⊢
      omega
    generalize oI ((zT z.2.1).2.1.2.1.map fun q => q.1) = B at qf qt ⊢
    generalize trumpI (zT z.2.1) = U at qf qt ⊢
    refine ⟨fun y => ?_, fun y => ⟨fun y2 => ?_, fun y2 => ⟨fun y3 => ?_, fun y3 => ⟨fun y4 => ?_, fun y4 => ?_⟩⟩⟩⟩
    · exact qt (by rw [y, decide_eq_true hn4]; rfl)
    · exact qt (by rw [decide_eq_true y2]; rfl)
    · exact qf (by rw [decide_eq_false y2, decide_eq_false y3]; rfl)
    · exact qf (by rw [decide_eq_false y2, decide_eq_false (Int32.not_lt.mpr y4), Bool.and_false]; rfl)
    · exact qt (by rw [decide_eq_true (Classical.not_not.mp y3), decide_eq_true (Int32.not_le.mp y4)]; rw [Bool.and_true, Bool.or_true])
theorem ok_X8_isFair : mOK yX8_isFair cX8_isFair 2 (some .boolean) 34 t_X8_isFair := mOK.of f_X8_isFair (by decide) (fun _ => rfl) (fun g => mCodeOK kk_X8_isFair) (fun g => mFldL fk_RX8 rfl) (fun g idx v h => by cases h) (fun g idx v h => by cases h) (mCalL (l := l_X8_isFair) (List.forall_mem_cons.mpr ⟨mSite.V (idx := 201) ok_X8_mayPlay (by decide) (by decide) rv_X8_mayPlay wc_X8_mayPlay wk_RX8_201 wi_X8_mayPlay wl_X8_mayPlay wn_RX8 wd_X8_mayPlay, List.forall_mem_cons.mpr ⟨mSite.S (idx := 139) ok_X8_has (by decide) (by decide) wc_X8_has wk_RX8_139 wt_X8_has wn_RX8 wd_X8_has, List.forall_mem_cons.mpr ⟨mSite.V (idx := 305) ok2_X8_open (by decide) (by decide) rv2_X8_open wc_X8_open wk_RX8_305 wi_X8_open wl_X8_open wn_RX8 wd_X8_open, fun _ h => absurd h List.not_mem_nil⟩⟩⟩) (fun _ => rfl)) run_X8_isFair

