/-! ===== CLASS Table: a claim ===== -/
theorem cl_w {f : Nat → Int32} {sd : Nat} {W0 W1 a0 a1 : Int32} (n L : Nat) (hs : sd < 2) (h0 : f 0 = W0 + a0) (h1 : f 1 = W1 + a1) : upd (upd f sd (f sd + nI n)) (1 - sd) (upd f sd (f sd + nI n) (1 - sd) + nI L) 0 = W0 + (a0 + nI (if sd = 0 then n else L)) ∧ upd (upd f sd (f sd + nI n)) (1 - sd) (upd f sd (f sd + nI n) (1 - sd) + nI L) 1 = W1 + (a1 + nI (if sd = 1 then n else L)) := by
  rcases (by omega : sd = 0 ∨ sd = 1) with rfl | rfl
  · rw [show 1 - 0 = 1 from rfl, upd_n (by decide), upd_s, upd_s, upd_n (by decide), h0, h1, Int32.add_assoc, Int32.add_assoc, if_pos rfl, if_neg (by decide)]
    exact ⟨rfl, rfl⟩
  · rw [show 1 - 1 = 0 from rfl, upd_s, upd_n (by decide), upd_n (by decide), upd_s, h0, h1, Int32.add_assoc, Int32.add_assoc, if_neg (by decide), if_pos rfl]
    exact ⟨rfl, rfl⟩
def pre_X5_claim (q : Nat × aT × Nat) (as : List mV) (M : mM) : Prop := (q.1 = 13 ∨ q.1 = 26) ∧ as = [.inr (some q.1), .inl (nI q.2.2)] ∧ RpT q.1 M q.2.1 ∧ q.2.1.1.2.1 < 4 ∧ q.2.1.2.1.2.1.isSome = true ∧ q.2.1.2.2.1.2.2.2.2.length < 32 ∧ q.2.2 ≤ 8 - q.2.1.2.2.1.2.2.2.2.length / 4
def post_X5_claim (q : Nat × aT × Nat) (_ : List mV) (M : mM) (M' : mM) : Prop := RpT q.1 M' (tClaim q.2.1 q.2.2) ∧ FrT q.1 M M'
abbrev t_X5_claim : mG → mT := mRv pre_X5_claim post_X5_claim
theorem mo_X5_claim : mMn t_X5_claim := mRv_mono
theorem rv_X5_claim : mHasR yX5_claim 1 t_X5_claim := by
  intro g as M P hT hl
  obtain ⟨q, ⟨h1, h2, -⟩, -⟩ := hT
  refine ⟨_, _, h2, is_X5 g _ ?_⟩
  rcases h1 with h1 | h1 <;> rw [h1] <;> rfl
def k_X5_claim : List (Nat × mI) := [(0, .aload_n 0, 1, 0, 0, []),
  (1, .getfield 21, 3, 0, 0, []),
  (4, .getfield 57, 3, 0, 0, []),
  (7, .iconst 1, 1, 0, nI 1, []),
  (8, .iand, 1, 0, 0, []),
  (9, .istore_n 2, 1, 2, 0, []),
  (10, .aload_n 0, 1, 0, 0, []),
  (11, .getfield 21, 3, 0, 0, []),
  (14, .iload_n 2, 1, 2, 0, []),
  (15, .iload_n 1, 1, 1, 0, []),
  (16, .invokevirtual 134, 3, 0, 0, []),
  (19, .aload_n 0, 1, 0, 0, []),
  (20, .getfield 21, 3, 0, 0, []),
  (23, .iconst 1, 1, 0, nI 1, []),
  (24, .iload_n 2, 1, 2, 0, []),
  (25, .isub, 1, 0, 0, []),
  (26, .aload_n 0, 1, 0, 0, []),
  (27, .getfield 21, 3, 0, 0, []),
  (30, .invokevirtual 58, 3, 0, 0, []),
  (33, .iload_n 1, 1, 1, 0, []),
  (34, .isub, 1, 0, 0, []),
  (35, .invokevirtual 134, 3, 0, 0, []),
  (38, .aload_n 0, 1, 0, 0, []),
  (39, .getfield 28, 3, 0, 0, []),
  (42, .aload_n 0, 1, 0, 0, []),
  (43, .getfield 12, 3, 0, 0, []),
  (46, .aload_n 0, 1, 0, 0, []),
  (47, .getfield 21, 3, 0, 0, []),
  (50, .getfield 119, 3, 0, 0, []),
  (53, .aload_n 0, 1, 0, 0, []),
  (54, .getfield 12, 3, 0, 0, []),
  (57, .getfield 123, 3, 0, 0, []),
  (60, .invokestatic 126, 3, 0, 0, []),
  (63, .invokevirtual 130, 3, 0, 0, []),
  (66, .aload_n 0, 1, 0, 0, []),
  (67, .invokevirtual 113, 3, 0, 0, []),
  (70, .return_, 1, 0, 0, [])]
theorem kk_X5_claim : (k_X5_claim.all fun e => mChk cX5_claim e.1 e.2) = true := by decide +kernel
def l_X5_claim : List (Nat × Nat × (mG → mT)) := [(3 * 134, 2 + 1, t_X2_addWon), (3 * 58, 0 + 1, t_X2_left), (3 * 126 + 1, 2, t_X7_at), (3 * 130, 2 + 1, t_X3_settle), (3 * 113, 0 + 1, t_X5_endDeal)]
def f_X5_claim (g : mG) : mF := (mLk k_X5_claim, mLk fl_RX5, mLk (l_X5_claim.map fun e => (e.1, e.2.1, e.2.2 g)), mLk ([] : List (Nat × mV)), mLk ([] : List (Nat × mV)), none)
theorem m_X5_claim (g : mG) : mMono (f_X5_claim g) := mMonoL (g := g) (l := l_X5_claim) (List.forall_mem_cons.mpr ⟨mo_X2_addWon, List.forall_mem_cons.mpr ⟨mo_X2_left, List.forall_mem_cons.mpr ⟨mo_X7_at, List.forall_mem_cons.mpr ⟨mo_X3_settle, List.forall_mem_cons.mpr ⟨mo_X5_endDeal, fun _ h => absurd h List.not_mem_nil⟩⟩⟩⟩⟩) rfl

set_option maxRecDepth 100000 in
theorem v_cl_0_13 (g : mG) (M : mM) (P : mP) (y : Int32)
    (h : let M1 : mM := mUp M 23 (aSet (M 23) 2 ((M 16 8) &&& (nI 1)) ((aAt (M 23) 2 ((M 16 8) &&& (nI 1))) + y)); ¬ (nI 4) = 0 ∧ (((let M2 : mM := mUp M1 23 (aSet (M1 23) 2 ((nI 1) - ((M 16 8) &&& (nI 1))) ((aAt (M1 23) 2 ((nI 1) - ((M 16 8) &&& (nI 1)))) + (((nI 8) - ((M 16 7) / (nI 4))) - y))); ∃ x3 : Nat × aBd × aSc × Nat, pre_X3_settle x3 [.inr (some 24), .inr (some 14), .inl (aAt (M2 23) 2 (M 14 4))] M2 ∧ ∀ M4 : mM, post_X3_settle x3 [.inr (some 24), .inr (some 14), .inl (aAt (M2 23) 2 (M 14 4))] M2 M4 → (let M5 : mM := mW1 M4 13 3 (nI 0); let M6 : mM := mW1 M5 13 4 (((M4 13 4) + (nI 1)) &&& (nI 3)); P none M6))))) :
    mRun (mSx g) (f_X5_claim g) P (0, [some (.inr (some 13)), some (.inl y), none], [], M) := mRun.vc (m_X5_claim g) [] 37 h

theorem cl_run_13 (g : mG) (P : mP) (M : mM) (T : aT) (n : Nat) (hR : RpT 13 M T) (hd : T.1.2.1 < 4) (hq : T.2.1.2.1.isSome = true) (hl : T.2.2.1.2.2.2.2.length < 32) (hn : n ≤ 8 - T.2.2.1.2.2.2.2.length / 4) (hP : ∀ M', post_X5_claim (13, T, n) [] M M' → P none M') :
    mRun (mSx g) (f_X5_claim g) P (0, [some (.inr (some 13)), some (.inl (nI n)), none], [], M) := by
  obtain ⟨hT, hB, hp, hS⟩ := hR
  obtain ⟨⟨r1, r2, r3⟩, r4, r5, r6, r7, r8, r9, r10⟩ := hp
  have hsd : M 16 8 &&& nI 1 = nI (aSd T.2.2.1.1 T.2.2.1.2.2.2.2) := by
    rw [show M 16 8 = _ from r2, nI_and1 _ (by have := aTn_lt (x := T.2.2.1.1) (cs := T.2.2.1.2.2.2.2) (j := T.2.2.1.2.2.2.2.length); omega)]
    rfl
  have hs2 := aSd_lt (x := T.2.2.1.1) (cs := T.2.2.1.2.2.2.2)
  have e7 : M 16 7 = nI T.2.2.1.2.2.2.2.length := r1
  refine v_cl_0_13 g M P _ ?_
  rw [hsd, e7, nI_div4 (by omega), pk_sub (by omega), pk_sub (by omega), pk_sub (by omega), aAt_in hs2 (by decide), aSet_in hs2 (by decide)]
  intro M1
  refine ⟨n4, ?_⟩
  rw [aAt_in (by omega) (by decide), aSet_in (by omega) (by decide)]
  intro M2
  have f : ∀ c, c ≠ 23 → M2 c = M c := fun c h => by
    show mUp (mUp M 23 _) 23 _ c = _
    rw [mUp_ne h, mUp_ne h]
  have fw : M2 23 = upd (upd (M 23) (aSd T.2.2.1.1 T.2.2.1.2.2.2.2) (M 23 (aSd T.2.2.1.1 T.2.2.1.2.2.2.2) + nI n)) (1 - aSd T.2.2.1.1 T.2.2.1.2.2.2.2) (upd (M 23) (aSd T.2.2.1.1 T.2.2.1.2.2.2.2) (M 23 (aSd T.2.2.1.1 T.2.2.1.2.2.2.2) + nI n) (1 - aSd T.2.2.1.1 T.2.2.1.2.2.2.2) + nI (8 - T.2.2.1.2.2.2.2.length / 4 - n)) := by
    have q1 : M1 23 = upd (M 23) (aSd T.2.2.1.1 T.2.2.1.2.2.2.2) (M 23 (aSd T.2.2.1.1 T.2.2.1.2.2.2.2) + nI n) := mUp_at
    show mUp M1 23 _ 23 = _
    rw [mUp_at, q1]
  have hw := cl_w (f := M 23) n (8 - T.2.2.1.2.2.2.2.length / 4 - n) hs2 r9 r10
  rw [← fw] at hw
  have hR2 : RpT 13 M2 (T.1, T.2.1, pClaim T.2.2.1 n, T.2.2.2) := by
    refine ⟨?_, RpB_fr hB (f 14 (by decide)) (f 15 (by decide)), ⟨?_, ?_, ?_, ?_, ?_, ?_, ?_, ?_⟩, RpSc_fr hS (f 24 (by decide)) (f 25 (by decide))⟩
    · rw [f 13 (by decide)]
      exact hT
    · rw [f 16 (by decide)]
      exact ⟨r1, r2, r3⟩
    · rw [f (16 + 4) (by decide)]
      exact r4
    · rw [f (16 + 2) (by decide)]
      exact r5
    · rw [f (16 + 3) (by decide)]
      exact r6
    · rw [f (16 + 5) (by decide)]
      exact r7
    · rw [f (16 + 6) (by decide)]
      exact r8
    · exact hw.1
    · exact hw.2
  have hF2 : FrT 13 M M2 := fun d hd => f d (by omega)
  have hm : aAt (M2 23) 2 (M2 14 4) = nI (pMade (pClaim T.2.2.1 n) T.2.1) := made_at hR2 hq
  rw [f 14 (by decide)] at hm
  rw [hm]
  refine ⟨(13, T.2.1, T.2.2.2, pMade (pClaim T.2.2.1 n) T.2.1), ⟨Or.inl rfl, rfl, hR2.2.1, hR2.2.2.2, hq⟩, fun M4 k4 => ?_⟩
  intro M5 M6
  have e := set_T (Or.inl rfl) hR2 hd hq k4
  exact hP M6 ⟨e.1, hF2.trans e.2⟩
set_option maxRecDepth 100000 in
theorem v_cl_0_26 (g : mG) (M : mM) (P : mP) (y : Int32)
    (h : let M1 : mM := mUp M 36 (aSet (M 36) 2 ((M 29 8) &&& (nI 1)) ((aAt (M 36) 2 ((M 29 8) &&& (nI 1))) + y)); ¬ (nI 4) = 0 ∧ (((let M2 : mM := mUp M1 36 (aSet (M1 36) 2 ((nI 1) - ((M 29 8) &&& (nI 1))) ((aAt (M1 36) 2 ((nI 1) - ((M 29 8) &&& (nI 1)))) + (((nI 8) - ((M 29 7) / (nI 4))) - y))); ∃ x3 : Nat × aBd × aSc × Nat, pre_X3_settle x3 [.inr (some 37), .inr (some 27), .inl (aAt (M2 36) 2 (M 27 4))] M2 ∧ ∀ M4 : mM, post_X3_settle x3 [.inr (some 37), .inr (some 27), .inl (aAt (M2 36) 2 (M 27 4))] M2 M4 → (let M5 : mM := mW1 M4 26 3 (nI 0); let M6 : mM := mW1 M5 26 4 (((M4 26 4) + (nI 1)) &&& (nI 3)); P none M6))))) :
    mRun (mSx g) (f_X5_claim g) P (0, [some (.inr (some 26)), some (.inl y), none], [], M) := mRun.vc (m_X5_claim g) [] 37 h

theorem cl_run_26 (g : mG) (P : mP) (M : mM) (T : aT) (n : Nat) (hR : RpT 26 M T) (hd : T.1.2.1 < 4) (hq : T.2.1.2.1.isSome = true) (hl : T.2.2.1.2.2.2.2.length < 32) (hn : n ≤ 8 - T.2.2.1.2.2.2.2.length / 4) (hP : ∀ M', post_X5_claim (26, T, n) [] M M' → P none M') :
    mRun (mSx g) (f_X5_claim g) P (0, [some (.inr (some 26)), some (.inl (nI n)), none], [], M) := by
  obtain ⟨hT, hB, hp, hS⟩ := hR
  obtain ⟨⟨r1, r2, r3⟩, r4, r5, r6, r7, r8, r9, r10⟩ := hp
  have hsd : M 29 8 &&& nI 1 = nI (aSd T.2.2.1.1 T.2.2.1.2.2.2.2) := by
    rw [show M 29 8 = _ from r2, nI_and1 _ (by have := aTn_lt (x := T.2.2.1.1) (cs := T.2.2.1.2.2.2.2) (j := T.2.2.1.2.2.2.2.length); omega)]
    rfl
  have hs2 := aSd_lt (x := T.2.2.1.1) (cs := T.2.2.1.2.2.2.2)
  have e7 : M 29 7 = nI T.2.2.1.2.2.2.2.length := r1
  refine v_cl_0_26 g M P _ ?_
  rw [hsd, e7, nI_div4 (by omega), pk_sub (by omega), pk_sub (by omega), pk_sub (by omega), aAt_in hs2 (by decide), aSet_in hs2 (by decide)]
  intro M1
  refine ⟨n4, ?_⟩
  rw [aAt_in (by omega) (by decide), aSet_in (by omega) (by decide)]
  intro M2
  have f : ∀ c, c ≠ 36 → M2 c = M c := fun c h => by
    show mUp (mUp M 36 _) 36 _ c = _
    rw [mUp_ne h, mUp_ne h]
  have fw : M2 36 = upd (upd (M 36) (aSd T.2.2.1.1 T.2.2.1.2.2.2.2) (M 36 (aSd T.2.2.1.1 T.2.2.1.2.2.2.2) + nI n)) (1 - aSd T.2.2.1.1 T.2.2.1.2.2.2.2) (upd (M 36) (aSd T.2.2.1.1 T.2.2.1.2.2.2.2) (M 36 (aSd T.2.2.1.1 T.2.2.1.2.2.2.2) + nI n) (1 - aSd T.2.2.1.1 T.2.2.1.2.2.2.2) + nI (8 - T.2.2.1.2.2.2.2.length / 4 - n)) := by
    have q1 : M1 36 = upd (M 36) (aSd T.2.2.1.1 T.2.2.1.2.2.2.2) (M 36 (aSd T.2.2.1.1 T.2.2.1.2.2.2.2) + nI n) := mUp_at
    show mUp M1 36 _ 36 = _
    rw [mUp_at, q1]
  have hw := cl_w (f := M 36) n (8 - T.2.2.1.2.2.2.2.length / 4 - n) hs2 r9 r10
  rw [← fw] at hw
  have hR2 : RpT 26 M2 (T.1, T.2.1, pClaim T.2.2.1 n, T.2.2.2) := by
    refine ⟨?_, RpB_fr hB (f 27 (by decide)) (f 28 (by decide)), ⟨?_, ?_, ?_, ?_, ?_, ?_, ?_, ?_⟩, RpSc_fr hS (f 37 (by decide)) (f 38 (by decide))⟩
    · rw [f 26 (by decide)]
      exact hT
    · rw [f 29 (by decide)]
      exact ⟨r1, r2, r3⟩
    · rw [f (29 + 4) (by decide)]
      exact r4
    · rw [f (29 + 2) (by decide)]
      exact r5
    · rw [f (29 + 3) (by decide)]
      exact r6
    · rw [f (29 + 5) (by decide)]
      exact r7
    · rw [f (29 + 6) (by decide)]
      exact r8
    · exact hw.1
    · exact hw.2
  have hF2 : FrT 26 M M2 := fun d hd => f d (by omega)
  have hm : aAt (M2 36) 2 (M2 27 4) = nI (pMade (pClaim T.2.2.1 n) T.2.1) := made_at hR2 hq
  rw [f 27 (by decide)] at hm
  rw [hm]
  refine ⟨(26, T.2.1, T.2.2.2, pMade (pClaim T.2.2.1 n) T.2.1), ⟨Or.inr rfl, rfl, hR2.2.1, hR2.2.2.2, hq⟩, fun M4 k4 => ?_⟩
  intro M5 M6
  have e := set_T (Or.inr rfl) hR2 hd hq k4
  exact hP M6 ⟨e.1, hF2.trans e.2⟩
theorem run_X5_claim : mRunOf 3 t_X5_claim f_X5_claim := fun g as M P hT => by
  obtain ⟨⟨t, T, n⟩, ⟨h1, rfl, h3, h4, h5, h6, h7⟩, hP⟩ := hT
  refine ⟨Nat.le_of_ble_eq_true rfl, ?_⟩
  dsimp only at h1 h3 h4 h5 h6 h7
  rcases h1 with rfl | rfl
  · exact cl_run_13 g P M T n h3 h4 h5 h6 h7 (fun M' h => hP M' h)
  · exact cl_run_26 g P M T n h3 h4 h5 h6 h7 (fun M' h => hP M' h)
theorem ok_X5_claim : mOK yX5_claim cX5_claim 3 (none) 3 t_X5_claim := mOK.of f_X5_claim (by decide) (fun _ => rfl) (fun g => mCodeOK kk_X5_claim) (fun g => mFldL fk_RX5 rfl) (fun g idx v h => by cases h) (fun g idx v h => by cases h) (mCalL (l := l_X5_claim) (List.forall_mem_cons.mpr ⟨mSite.V (idx := 134) ok_X2_addWon (by decide) (by decide) rv_X2_addWon wc_X2_addWon wk_RX5_134 wi_X2_addWon wl_X2_addWon wn_RX2 wd_X2_addWon, List.forall_mem_cons.mpr ⟨mSite.V (idx := 58) ok_X2_left (by decide) (by decide) rv_X2_left wc_X2_left wk_RX5_58 wi_X2_left wl_X2_left wn_RX2 wd_X2_left, List.forall_mem_cons.mpr ⟨mSite.SN (idx := 126) ok_X7_at (by decide) (by decide) wc_X7_at wm_RX5_126 wt_X7_at wn_RX7 wd_X7_at, List.forall_mem_cons.mpr ⟨mSite.V (idx := 130) ok_X3_settle (by decide) (by decide) rv_X3_settle wc_X3_settle wk_RX5_130 wi_X3_settle wl_X3_settle wn_RX3 wd_X3_settle, List.forall_mem_cons.mpr ⟨mSite.V (idx := 113) ok_X5_endDeal (by decide) (by decide) rv_X5_endDeal wc_X5_endDeal wk_RX5_113 wi_X5_endDeal wl_X5_endDeal wn_RX5 wd_X5_endDeal, fun _ h => absurd h List.not_mem_nil⟩⟩⟩⟩⟩) (fun _ => rfl)) run_X5_claim

