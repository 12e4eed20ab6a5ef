/-! ===== CLASS Table: a card is played; a claim ===== -/
theorem RpB_fr {c : Nat} {M M' : mM} {b : aBd} (h : RpB c M b) (e1 : M' c = M c) (e2 : M' (c + 1) = M (c + 1)) : RpB c M' b := by
  unfold RpB
  rw [e1, e2]
  exact h
theorem RpSc_fr {c : Nat} {M M' : mM} {s : aSc} (h : RpSc c M s) (e1 : M' c = M c) (e2 : M' (c + 1) = M (c + 1)) : RpSc c M' s := by
  unfold RpSc
  rw [e1, e2]
  exact h
theorem RpS_fr {c : Nat} {M M' : mM} {a : aP} (h : RpS c M a) (e : ∀ k, k < 8 → M' (c + k) = M (c + k)) : RpS c M' a := by
  unfold RpS RpP
  rw [e 2 (by decide), e 3 (by decide), e 4 (by decide), e 5 (by decide), e 6 (by decide), e 7 (by decide), show M' c = M c from e 0 (by decide)]
  exact h
theorem nI_ub (v : Int32) : nI (ub v) = v := ub_inj (ub_nI (ub_lt v))
theorem end_T {t : Nat} {M : mM} {T : aT} (h : RpT t M T) (hd : T.1.2.1 < 4) : RpT t (mW1 (mW1 M t 3 (nI 0)) t 4 ((M t 4 + nI 1) &&& nI 3)) (tEnd T) ∧ FrT t M (mW1 (mW1 M t 3 (nI 0)) t 4 ((M t 4 + nI 1) &&& nI 3)) := by
  obtain ⟨⟨r3, r4, r5, r6⟩, hB, hP, hS⟩ := h
  have f : ∀ (v : Int32) (c : Nat), c ≠ t → mW1 (mW1 M t 3 (nI 0)) t 4 v c = M c := fun v c h => by rw [mW1_c h, mW1_c h]
  rw [r4, nI_add, nI_and3 _ (by omega)]
  refine ⟨⟨⟨?_, mW1_s, ?_, ?_⟩, RpB_fr hB (f _ _ (by omega)) (f _ _ (by omega)), RpS_fr hP (fun k hk => f _ _ (by omega)), RpSc_fr hS (f _ _ (by omega)) (f _ _ (by omega))⟩, fun c hc => f _ _ (by omega)⟩
  · rw [mW1_k (by decide), mW1_s]
    rfl
  · rw [mW1_k (by decide), mW1_k (by decide)]
    exact r5
  · rw [mW1_k (by decide), mW1_k (by decide)]
    exact r6
/-- what the scores take of the play -/
theorem pWon_at {c : Nat} {M : mM} {a : aP} (h : RpS c M a) {s : Nat} (hs : s < 2) : aAt (M (c + 7)) 2 (nI s) = pWon a s := by
  rw [aAt_in hs (by decide)]
  obtain ⟨-, -, -, -, -, -, h0, h1⟩ := h
  rcases (by omega : s = 0 ∨ s = 1) with rfl | rfl
  · exact h0
  · exact h1
theorem set_T {t : Nat} {M M4 : mM} {T : aT} (ht : t = 13 ∨ t = 26) (h : RpT t M T) (hd : T.1.2.1 < 4) (hq : T.2.1.2.1.isSome = true) (k : post_X3_settle (t, T.2.1, T.2.2.2, pMade T.2.2.1 T.2.1) [] M M4) : RpT t (mW1 (mW1 M4 t 3 (nI 0)) t 4 ((M4 t 4 + nI 1) &&& nI 3)) (tSet T) ∧ FrT t M (mW1 (mW1 M4 t 3 (nI 0)) t 4 ((M4 t 4 + nI 1) &&& nI 3)) := by
  obtain ⟨hT, hB, hP, hS⟩ := h
  obtain ⟨k1, k2⟩ := k
  dsimp only at k1 k2
  have e : RpT t M4 (T.1, T.2.1, T.2.2.1, sSet T.2.2.2 T.2.1 (pMade T.2.2.1 T.2.1)) := by
    refine ⟨?_, RpB_fr hB (k2 _ (by omega) (by omega)) (k2 _ (by omega) (by omega)), RpS_fr hP (fun k hk => k2 _ (by omega) (by omega)), k1⟩
    rw [k2 t (by omega) (by omega)]
    exact hT
  have e2 := end_T e hd
  exact ⟨e2.1, FrT.trans (fun c hc => k2 c (by omega) (by omega)) e2.2⟩
theorem made_at {t : Nat} {M : mM} {T : aT} (h : RpT t M T) (hq : T.2.1.2.1.isSome = true) : aAt (M (t + 3 + 7)) 2 (M (t + 1) 4) = nI (pMade T.2.2.1 T.2.1) := by
  obtain ⟨-, hB, hP, -⟩ := h
  obtain ⟨v1, ⟨v2, o, v3, v4⟩, Pl, v5⟩ := T
  cases o with
  | none => exact absurd (show false = true from hq) (by decide)
  | some w =>
  obtain ⟨n, u, q⟩ := w
  obtain ⟨-, -, -, -, -, h4, -⟩ := hB
  have h4' : M (t + 1) 4 = nI (q % 2) := h4
  rw [h4', pWon_at hP (Nat.mod_lt _ (by decide))]
  exact (nI_ub _).symm
def pre_X5_playCard (q : Nat × aT × Nat) (as : List mV) (M : mM) : Prop := (q.1 = 13 ∨ q.1 = 26) ∧ as = [.inr (some q.1), .inl (nI q.2.2)] ∧ RpT q.1 M q.2.1 ∧ q.2.1.1.2.1 < 4 ∧ q.2.1.2.1.2.1.isSome = true ∧ aOkS q.2.1.2.2.1 ∧ q.2.1.2.2.1.2.2.2.2.length < 32 ∧ q.2.2 < 32 ∧ bt (aHd q.2.1.2.2.1.2.1 q.2.1.2.2.1.2.2.2.2 (aTn q.2.1.2.2.1.1 q.2.1.2.2.1.2.2.2.2 q.2.1.2.2.1.2.2.2.2.length)) q.2.2 = true
def post_X5_playCard (q : Nat × aT × Nat) (_ : List mV) (M : mM) (M' : mM) : Prop := RpT q.1 M' (tPlay q.2.1 q.2.2) ∧ FrT q.1 M M'
abbrev t_X5_playCard : mG → mT := mRv pre_X5_playCard post_X5_playCard
theorem mo_X5_playCard : mMn t_X5_playCard := mRv_mono
theorem rv_X5_playCard : mHasR yX5_playCard 1 t_X5_playCard := by
  intro g as M P hT hl
  obtain ⟨q, ⟨h1, h2, -⟩, -⟩ := hT
  refine ⟨_, _, h2, is_X5 g _ ?_⟩
  rcases h1 with h1 | h1 <;> rw [h1] <;> rfl
def k_X5_playCard : List (Nat × mI) := [(0, .aload_n 0, 1, 0, 0, []),
  (1, .getfield 21, 3, 0, 0, []),
  (4, .iload_n 1, 1, 1, 0, []),
  (5, .invokevirtual 116, 3, 0, 0, []),
  (8, .aload_n 0, 1, 0, 0, []),
  (9, .getfield 21, 3, 0, 0, []),
  (12, .invokevirtual 58, 3, 0, 0, []),
  (15, .ifCond .ne 35, 3, 50, 0, []),
  (18, .aload_n 0, 1, 0, 0, []),
  (19, .getfield 28, 3, 0, 0, []),
  (22, .aload_n 0, 1, 0, 0, []),
  (23, .getfield 12, 3, 0, 0, []),
  (26, .aload_n 0, 1, 0, 0, []),
  (27, .getfield 21, 3, 0, 0, []),
  (30, .getfield 119, 3, 0, 0, []),
  (33, .aload_n 0, 1, 0, 0, []),
  (34, .getfield 12, 3, 0, 0, []),
  (37, .getfield 123, 3, 0, 0, []),
  (40, .invokestatic 126, 3, 0, 0, []),
  (43, .invokevirtual 130, 3, 0, 0, []),
  (46, .aload_n 0, 1, 0, 0, []),
  (47, .invokevirtual 113, 3, 0, 0, []),
  (50, .return_, 1, 0, 0, [])]
theorem kk_X5_playCard : (k_X5_playCard.all fun e => mChk cX5_playCard e.1 e.2) = true := by decide +kernel
def l_X5_playCard : List (Nat × Nat × (mG → mT)) := [(3 * 116, 1 + 1, t_X2_lay), (3 * 58, 0 + 1, t_X2_left), (3 * 126 + 1, 2, t_X7_at), (3 * 130, 2 + 1, t_X3_settle), (3 * 113, 0 + 1, t_X5_endDeal)]
def f_X5_playCard (g : mG) : mF := (mLk k_X5_playCard, mLk fl_RX5, mLk (l_X5_playCard.map fun e => (e.1, e.2.1, e.2.2 g)), mLk ([] : List (Nat × mV)), mLk ([] : List (Nat × mV)), none)
theorem m_X5_playCard (g : mG) : mMono (f_X5_playCard g) := mMonoL (g := g) (l := l_X5_playCard) (List.forall_mem_cons.mpr ⟨mo_X2_lay, List.forall_mem_cons.mpr ⟨mo_X2_left, List.forall_mem_cons.mpr ⟨mo_X7_at, List.forall_mem_cons.mpr ⟨mo_X3_settle, List.forall_mem_cons.mpr ⟨mo_X5_endDeal, fun _ h => absurd h List.not_mem_nil⟩⟩⟩⟩⟩) rfl

theorem v_pc_0_13 (g : mG) (M : mM) (P : mP) (y : Int32)
    (h : ∃ x1 : Nat × aP × Nat, pre_X2_lay x1 [.inr (some 16), .inl y] M ∧ ∀ M2 : mM, post_X2_lay x1 [.inr (some 16), .inl y] M M2 → (¬ (nI 4) = 0 ∧ ((((¬ ((nI 8) - ((M2 16 7) / (nI 4))) = 0 → P none M2) ∧ (¬ (¬ ((nI 8) - ((M2 16 7) / (nI 4))) = 0) → ∃ x3 : Nat × aBd × aSc × Nat, pre_X3_settle x3 [.inr (some 24), .inr (some 14), .inl (aAt (M2 23) 2 (M2 14 4))] M2 ∧ ∀ M4 : mM, post_X3_settle x3 [.inr (some 24), .inr (some 14), .inl (aAt (M2 23) 2 (M2 14 4))] M2 M4 → (let M5 : mM := mW1 M4 13 3 (nI 0); let M6 : mM := mW1 M5 13 4 (((M4 13 4) + (nI 1)) &&& (nI 3)); P none M6))))))) :
    mRun (mSx g) (f_X5_playCard g) P (0, [some (.inr (some 13)), some (.inl y)], [], M) := mRun.vc (m_X5_playCard g) [] 23 h

theorem pc_run_13 (g : mG) (P : mP) (M : mM) (T : aT) (c : Nat) (hR : RpT 13 M T) (hd : T.1.2.1 < 4) (hq : T.2.1.2.1.isSome = true) (hok : aOkS T.2.2.1) (hl : T.2.2.1.2.2.2.2.length < 32) (hc : c < 32) (hb : bt (aHd T.2.2.1.2.1 T.2.2.1.2.2.2.2 (aTn T.2.2.1.1 T.2.2.1.2.2.2.2 T.2.2.1.2.2.2.2.length)) c = true) (hP : ∀ M', post_X5_playCard (13, T, c) [] M M' → P none M') :
    mRun (mSx g) (f_X5_playCard g) P (0, [some (.inr (some 13)), some (.inl (nI c))], [], M) := by
  obtain ⟨hT, hB, hp, hS⟩ := hR
  refine v_pc_0_13 g M P _ ⟨(16, T.2.2.1, c), ⟨rfl, rfl, hp, hok, hl, hc, hb⟩, fun M2 k => ?_⟩
  obtain ⟨kR, kF⟩ := k
  dsimp only at kR kF
  have hR2 : RpT 13 M2 (T.1, T.2.1, pAdd T.2.2.1 c, T.2.2.2) := by
    refine ⟨?_, RpB_fr hB (kF 14 (by decide)) (kF 15 (by decide)), kR, RpSc_fr hS (kF 24 (by decide)) (kF 25 (by decide))⟩
    rw [kF 13 (by decide)]
    exact hT
  have hF2 : FrT 13 M M2 := fun d hd => kF d (by omega)
  have e7 : M2 16 7 = nI (T.2.2.1.2.2.2.2.length + 1) := by
    have := kR.1.1
    rw [List.length_append, List.length_singleton] at this
    exact this
  refine ⟨n4, ?_⟩
  rw [e7, nI_div4 (by omega), pk_sub (by omega)]
  by_cases h : T.2.2.1.2.2.2.2.length + 1 = 32
  · refine ⟨fun z => absurd (by rw [h]; rfl) z, fun _ => ?_⟩
    have hm := made_at hR2 hq
    have hm2 : aAt (M2 23) 2 (M2 14 4) = nI (pMade (pAdd T.2.2.1 c) T.2.1) := hm
    rw [hm2]
    refine ⟨(13, T.2.1, T.2.2.2, pMade (pAdd T.2.2.1 c) T.2.1), ⟨Or.inl rfl, rfl, hR2.2.1, hR2.2.2.2, hq⟩, fun M4 k4 => ?_⟩
    intro M5 M6
    have e := set_T (Or.inl rfl) hR2 hd hq k4
    refine hP M6 ⟨?_, hF2.trans e.2⟩
    show RpT 13 M6 (tPlay T c)
    rw [tPlay, if_pos h]
    exact e.1
  · refine ⟨fun _ => hP M2 ⟨?_, hF2⟩, fun z => absurd (nI_ne0 (by omega) (by omega)) z⟩
    show RpT 13 M2 (tPlay T c)
    rw [tPlay, if_neg h]
    exact hR2
theorem v_pc_0_26 (g : mG) (M : mM) (P : mP) (y : Int32)
    (h : ∃ x1 : Nat × aP × Nat, pre_X2_lay x1 [.inr (some 29), .inl y] M ∧ ∀ M2 : mM, post_X2_lay x1 [.inr (some 29), .inl y] M M2 → (¬ (nI 4) = 0 ∧ ((((¬ ((nI 8) - ((M2 29 7) / (nI 4))) = 0 → P none M2) ∧ (¬ (¬ ((nI 8) - ((M2 29 7) / (nI 4))) = 0) → ∃ x3 : Nat × aBd × aSc × Nat, pre_X3_settle x3 [.inr (some 37), .inr (some 27), .inl (aAt (M2 36) 2 (M2 27 4))] M2 ∧ ∀ M4 : mM, post_X3_settle x3 [.inr (some 37), .inr (some 27), .inl (aAt (M2 36) 2 (M2 27 4))] M2 M4 → (let M5 : mM := mW1 M4 26 3 (nI 0); let M6 : mM := mW1 M5 26 4 (((M4 26 4) + (nI 1)) &&& (nI 3)); P none M6))))))) :
    mRun (mSx g) (f_X5_playCard g) P (0, [some (.inr (some 26)), some (.inl y)], [], M) := mRun.vc (m_X5_playCard g) [] 23 h

theorem pc_run_26 (g : mG) (P : mP) (M : mM) (T : aT) (c : Nat) (hR : RpT 26 M T) (hd : T.1.2.1 < 4) (hq : T.2.1.2.1.isSome = true) (hok : aOkS T.2.2.1) (hl : T.2.2.1.2.2.2.2.length < 32) (hc : c < 32) (hb : bt (aHd T.2.2.1.2.1 T.2.2.1.2.2.2.2 (aTn T.2.2.1.1 T.2.2.1.2.2.2.2 T.2.2.1.2.2.2.2.length)) c = true) (hP : ∀ M', post_X5_playCard (26, T, c) [] M M' → P none M') :
    mRun (mSx g) (f_X5_playCard g) P (0, [some (.inr (some 26)), some (.inl (nI c))], [], M) := by
  obtain ⟨hT, hB, hp, hS⟩ := hR
  refine v_pc_0_26 g M P _ ⟨(29, T.2.2.1, c), ⟨rfl, rfl, hp, hok, hl, hc, hb⟩, fun M2 k => ?_⟩
  obtain ⟨kR, kF⟩ := k
  dsimp only at kR kF
  have hR2 : RpT 26 M2 (T.1, T.2.1, pAdd T.2.2.1 c, T.2.2.2) := by
    refine ⟨?_, RpB_fr hB (kF 27 (by decide)) (kF 28 (by decide)), kR, RpSc_fr hS (kF 37 (by decide)) (kF 38 (by decide))⟩
    rw [kF 26 (by decide)]
    exact hT
  have hF2 : FrT 26 M M2 := fun d hd => kF d (by omega)
  have e7 : M2 29 7 = nI (T.2.2.1.2.2.2.2.length + 1) := by
    have := kR.1.1
    rw [List.length_append, List.length_singleton] at this
    exact this
  refine ⟨n4, ?_⟩
  rw [e7, nI_div4 (by omega), pk_sub (by omega)]
  by_cases h : T.2.2.1.2.2.2.2.length + 1 = 32
  · refine ⟨fun z => absurd (by rw [h]; rfl) z, fun _ => ?_⟩
    have hm := made_at hR2 hq
    have hm2 : aAt (M2 36) 2 (M2 27 4) = nI (pMade (pAdd T.2.2.1 c) T.2.1) := hm
    rw [hm2]
    refine ⟨(26, T.2.1, T.2.2.2, pMade (pAdd T.2.2.1 c) T.2.1), ⟨Or.inr rfl, rfl, hR2.2.1, hR2.2.2.2, hq⟩, fun M4 k4 => ?_⟩
    intro M5 M6
    have e := set_T (Or.inr rfl) hR2 hd hq k4
    refine hP M6 ⟨?_, hF2.trans e.2⟩
    show RpT 26 M6 (tPlay T c)
    rw [tPlay, if_pos h]
    exact e.1
  · refine ⟨fun _ => hP M2 ⟨?_, hF2⟩, fun z => absurd (nI_ne0 (by omega) (by omega)) z⟩
    show RpT 26 M2 (tPlay T c)
    rw [tPlay, if_neg h]
    exact hR2
theorem run_X5_playCard : mRunOf 2 t_X5_playCard f_X5_playCard := fun g as M P hT => by
  obtain ⟨⟨t, T, c⟩, ⟨h1, rfl, h3, h4, h5, h6, h7, h8, h9⟩, hP⟩ := hT
  refine ⟨Nat.le_of_ble_eq_true rfl, ?_⟩
  dsimp only at h1 h3 h4 h5 h6 h7 h8 h9
  rcases h1 with rfl | rfl
  · exact pc_run_13 g P M T c h3 h4 h5 h6 h7 h8 h9 (fun M' h => hP M' h)
  · exact pc_run_26 g P M T c h3 h4 h5 h6 h7 h8 h9 (fun M' h => hP M' h)
theorem ok_X5_playCard : mOK yX5_playCard cX5_playCard 2 (none) 4 t_X5_playCard := mOK.of f_X5_playCard (by decide) (fun _ => rfl) (fun g => mCodeOK kk_X5_playCard) (fun g => mFldL fk_RX5 rfl) (fun g idx v h => by cases h) (fun g idx v h => by cases h) (mCalL (l := l_X5_playCard) (List.forall_mem_cons.mpr ⟨mSite.V (idx := 116) ok_X2_lay (by decide) (by decide) rv_X2_lay wc_X2_lay wk_RX5_116 wi_X2_lay wl_X2_lay wn_RX2 wd_X2_lay, List.forall_mem_cons.mpr ⟨mSite.V (idx := 58) ok_X2_left (by decide) (by decide) rv_X2_left wc_X2_left wk_RX5_58 wi_X2_left wl_X2_left wn_RX2 wd_X2_left, List.forall_mem_cons.mpr ⟨mSite.SN (idx := 126) ok_X7_at (by decide) (by decide) wc_X7_at wm_RX5_126 wt_X7_at wn_RX7 wd_X7_at, List.forall_mem_cons.mpr ⟨mSite.V (idx := 130) ok_X3_settle (by decide) (by decide) rv_X3_settle wc_X3_settle wk_RX5_130 wi_X3_settle wl_X3_settle wn_RX3 wd_X3_settle, List.forall_mem_cons.mpr ⟨mSite.V (idx := 113) ok_X5_endDeal (by decide) (by decide) rv_X5_endDeal wc_X5_endDeal wk_RX5_113 wi_X5_endDeal wl_X5_endDeal wn_RX5 wd_X5_endDeal, fun _ h => absurd h List.not_mem_nil⟩⟩⟩⟩⟩) (fun _ => rfl)) run_X5_playCard

