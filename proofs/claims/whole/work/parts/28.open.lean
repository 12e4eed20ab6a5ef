/-! ===== CLASS TrickHouse: open, gains, best ===== -/
def aSd (x : aX) (cs : List Nat) : Nat := aTn x cs cs.length % 2
def aO (x : aX) (dl : Nat → Int32) (cs : List Nat) : Nat := aV x dl (aSd x cs) (32 - cs.length) cs - aWn x cs (aSd x cs) (cs.length / 4)
def aG (x : aX) (dl : Nat → Int32) (cs : List Nat) (c : Nat) : Nat := aV x dl (aSd x cs) (31 - cs.length) (cs ++ [c]) - aWn x cs (aSd x cs) (cs.length / 4)
theorem won_at {p : Nat} {M : mM} {x : aX} {dl : Nat → Int32} {cs : List Nat} (hR : RpP p M x dl 0 0 cs) {s : Nat} (hs : s < 2) : aAt (M (p + 7)) 2 (nI s) = nI (aWn x cs s (cs.length / 4)) := by
  rw [aAt_in hs (by decide)]
  obtain ⟨-, -, -, -, -, -, h0, h1⟩ := hR
  rcases (by omega : s = 0 ∨ s = 1) with rfl | rfl
  · exact h0.trans (Int32.add_zero _)
  · exact h1.trans (Int32.add_zero _)
theorem aSd_lt {x : aX} {cs : List Nat} : aSd x cs < 2 := Nat.mod_lt _ (by decide)
theorem sd_at {p : Nat} {M : mM} {x : aX} {dl : Nat → Int32} {cs : List Nat} (hR : RpP p M x dl 0 0 cs) : M p 8 &&& nI 1 = nI (aSd x cs) := by
  rw [hR.1.2.1, nI_and1 _ (by have := aTn_lt (x := x) (cs := cs) (j := cs.length); omega)]
  rfl
def pre_X7_openNow (q : aX × (Nat → Int32) × List Nat) (as : List mV) (M : mM) : Prop := as = [.inr (some 0)] ∧ RpP 16 M q.1 q.2.1 0 0 q.2.2 ∧ aOk q.1 q.2.1 q.2.2 ∧ 20 ≤ q.2.2.length
def post_X7_openNow (q : aX × (Nat → Int32) × List Nat) (_ : List mV) (M : mM) (v : Int32) (M' : mM) : Prop := v = nI (aO q.1 q.2.1 q.2.2) ∧ FrP 29 M M'
abbrev t_X7_openNow : mG → mT := mRi pre_X7_openNow post_X7_openNow
theorem mo_X7_openNow : mMn t_X7_openNow := mRi_mono
theorem rv_X7_openNow : mHasR yX7_openNow 0 t_X7_openNow := by
  intro g as M P hT hl
  obtain ⟨q, ⟨h2, -⟩, -⟩ := hT
  exact ⟨_, _, h2, is_X7 g _ rfl⟩
def k_X7_openNow : List (Nat × mI) := [(0, .aload_n 0, 1, 0, 0, []),
  (1, .getfield 29, 3, 0, 0, []),
  (4, .getfield 134, 3, 0, 0, []),
  (7, .getfield 149, 3, 0, 0, []),
  (10, .iconst 1, 1, 0, nI 1, []),
  (11, .iand, 1, 0, 0, []),
  (12, .istore_n 1, 1, 1, 0, []),
  (13, .aload_n 0, 1, 0, 0, []),
  (14, .getfield 33, 3, 0, 0, []),
  (17, .getfield 134, 3, 0, 0, []),
  (20, .aload_n 0, 1, 0, 0, []),
  (21, .getfield 29, 3, 0, 0, []),
  (24, .getfield 134, 3, 0, 0, []),
  (27, .invokevirtual 345, 3, 0, 0, []),
  (30, .aload_n 0, 1, 0, 0, []),
  (31, .getfield 33, 3, 0, 0, []),
  (34, .getfield 134, 3, 0, 0, []),
  (37, .iload_n 1, 1, 1, 0, []),
  (38, .iconst 0, 1, 0, nI 0, []),
  (39, .invokestatic 348, 3, 0, 0, []),
  (42, .aload_n 0, 1, 0, 0, []),
  (43, .getfield 29, 3, 0, 0, []),
  (46, .getfield 134, 3, 0, 0, []),
  (49, .getfield 352, 3, 0, 0, []),
  (52, .iload_n 1, 1, 1, 0, []),
  (53, .invokestatic 107, 3, 0, 0, []),
  (56, .isub, 1, 0, 0, []),
  (57, .ireturn, 1, 0, 0, [])]
theorem kk_X7_openNow : (k_X7_openNow.all fun e => mChk cX7_openNow e.1 e.2) = true := by decide +kernel
def l_X7_openNow : List (Nat × Nat × (mG → mT)) := [(3 * 345, 1 + 1, t_X2_become), (3 * 348 + 1, 3, (t_X7_mostMade 13)), (3 * 107 + 1, 2, t_X7_at)]
def f_X7_openNow (g : mG) : mF := (mLk k_X7_openNow, mLk fl_RX7, mLk (l_X7_openNow.map fun e => (e.1, e.2.1, e.2.2 g)), mLk ([] : List (Nat × mV)), mLk ([] : List (Nat × mV)), some .int)
theorem m_X7_openNow (g : mG) : mMono (f_X7_openNow g) := mMonoL (g := g) (l := l_X7_openNow) (List.forall_mem_cons.mpr ⟨mo_X2_become, List.forall_mem_cons.mpr ⟨(mo_X7_mostMade 13), List.forall_mem_cons.mpr ⟨mo_X7_at, fun _ h => absurd h List.not_mem_nil⟩⟩⟩) rfl

theorem v_on_0 (g : mG) (M : mM) (P : mP) 
    (h : ∃ x1 : aP, pre_X2_become x1 [.inr (some 29), .inr (some 16)] M ∧ ∀ M2 : mM, post_X2_become x1 [.inr (some 29), .inr (some 16)] M M2 → (∃ x3 : Nat × aX × (Nat → Int32) × List Nat, pre_X7_mostMade 13 x3 [.inr (some 29), .inl ((M 16 8) &&& (nI 1)), .inl (nI 0)] M2 ∧ ∀ (r5 : Int32) (M4 : mM), post_X7_mostMade 13 x3 [.inr (some 29), .inl ((M 16 8) &&& (nI 1)), .inl (nI 0)] M2 r5 M4 → (P (some (.inl (r5 - (aAt (M4 23) 2 ((M 16 8) &&& (nI 1)))))) M4))) :
    mRun (mSx g) (f_X7_openNow g) P (0, [some (.inr (some 0)), none], [], M) := mRun.vc (m_X7_openNow g) [] 28 h

theorem run_X7_openNow : mRunOf 2 t_X7_openNow f_X7_openNow := fun g as M P hT => by
  obtain ⟨⟨x, dl, cs⟩, ⟨rfl, h1, h2, h3⟩, hP⟩ := hT
  dsimp only at h1 h2 h3
  refine ⟨Nat.le_of_ble_eq_true rfl, v_on_0 g M P ?_⟩
  rw [sd_at h1]
  refine ⟨(x, dl, 0, 0, cs), ⟨rfl, h1, h2.2.2.1⟩, fun M2 k2 => ?_⟩
  refine ⟨(aSd x cs, x, dl, cs), ⟨0, rfl, by decide, rfl, aSd_lt, k2.1, h2, h3⟩, fun r5 M4 k4 => ?_⟩
  have hF : FrP 29 M M4 := k2.2.trans k4.2.2
  have e1 : r5 = nI (aV x dl (aSd x cs) (32 - cs.length) cs) := k4.1
  have hlen := h2.2.2.1
  have hb := aV_bd (s := aSd x cs) (32 - cs.length) cs (by omega) h2
  have hW := aWn_le (x := x) (cs := cs) (s := aSd x cs) (cs.length / 4)
  rw [hF 23 (by decide), won_at (p := 16) h1 aSd_lt, e1, pk_sub (by omega)]
  exact hP _ _ ⟨rfl, hF⟩
theorem ok_X7_openNow : mOK yX7_openNow cX7_openNow 2 (some .int) 18 t_X7_openNow := mOK.of f_X7_openNow (by decide) (fun _ => rfl) (fun g => mCodeOK kk_X7_openNow) (fun g => mFldL fk_RX7 rfl) (fun g idx v h => by cases h) (fun g idx v h => by cases h) (mCalL (l := l_X7_openNow) (List.forall_mem_cons.mpr ⟨mSite.V (idx := 345) ok_X2_become (by decide) (by decide) rv_X2_become wc_X2_become wk_RX7_345 wi_X2_become wl_X2_become wn_RX2 wd_X2_become, List.forall_mem_cons.mpr ⟨mSite.S (idx := 348) (ok_X7_mostMade 13) (by decide) (by decide) wc_X7_mostMade wk_RX7_348 wt_X7_mostMade wn_RX7 wd_X7_mostMade, List.forall_mem_cons.mpr ⟨mSite.S (idx := 107) ok_X7_at (by decide) (by decide) wc_X7_at wk_RX7_107 wt_X7_at wn_RX7 wd_X7_at, fun _ h => absurd h List.not_mem_nil⟩⟩⟩) (fun _ => rfl)) run_X7_openNow

def pre_X7_gainsOf (q : aX × (Nat → Int32) × List Nat × Nat) (as : List mV) (M : mM) : Prop := as = [.inr (some 0), .inl (nI q.2.2.2)] ∧ RpP 16 M q.1 q.2.1 0 0 q.2.2.1 ∧ aOk q.1 q.2.1 q.2.2.1 ∧ 20 ≤ q.2.2.1.length ∧ q.2.2.1.length < 32 ∧ q.2.2.2 < 32 ∧ bt (aAl q.1 q.2.1 q.2.2.1) q.2.2.2 = true
def post_X7_gainsOf (q : aX × (Nat → Int32) × List Nat × Nat) (_ : List mV) (M : mM) (v : Int32) (M' : mM) : Prop := v = nI (aG q.1 q.2.1 q.2.2.1 q.2.2.2) ∧ FrP 29 M M'
abbrev t_X7_gainsOf : mG → mT := mRi pre_X7_gainsOf post_X7_gainsOf
theorem mo_X7_gainsOf : mMn t_X7_gainsOf := mRi_mono
theorem rv_X7_gainsOf : mHasR yX7_gainsOf 1 t_X7_gainsOf := by
  intro g as M P hT hl
  obtain ⟨q, ⟨h2, -⟩, -⟩ := hT
  exact ⟨_, _, h2, is_X7 g _ rfl⟩
def k_X7_gainsOf : List (Nat × mI) := [(0, .aload_n 0, 1, 0, 0, []),
  (1, .getfield 29, 3, 0, 0, []),
  (4, .getfield 134, 3, 0, 0, []),
  (7, .getfield 149, 3, 0, 0, []),
  (10, .iconst 1, 1, 0, nI 1, []),
  (11, .iand, 1, 0, 0, []),
  (12, .istore_n 2, 1, 2, 0, []),
  (13, .aload_n 0, 1, 0, 0, []),
  (14, .getfield 33, 3, 0, 0, []),
  (17, .getfield 134, 3, 0, 0, []),
  (20, .aload_n 0, 1, 0, 0, []),
  (21, .getfield 29, 3, 0, 0, []),
  (24, .getfield 134, 3, 0, 0, []),
  (27, .invokevirtual 345, 3, 0, 0, []),
  (30, .aload_n 0, 1, 0, 0, []),
  (31, .getfield 33, 3, 0, 0, []),
  (34, .getfield 134, 3, 0, 0, []),
  (37, .iload_n 1, 1, 1, 0, []),
  (38, .invokevirtual 355, 3, 0, 0, []),
  (41, .aload_n 0, 1, 0, 0, []),
  (42, .getfield 33, 3, 0, 0, []),
  (45, .getfield 134, 3, 0, 0, []),
  (48, .iload_n 2, 1, 2, 0, []),
  (49, .iconst 1, 1, 0, nI 1, []),
  (50, .invokestatic 348, 3, 0, 0, []),
  (53, .aload_n 0, 1, 0, 0, []),
  (54, .getfield 29, 3, 0, 0, []),
  (57, .getfield 134, 3, 0, 0, []),
  (60, .getfield 352, 3, 0, 0, []),
  (63, .iload_n 2, 1, 2, 0, []),
  (64, .invokestatic 107, 3, 0, 0, []),
  (67, .isub, 1, 0, 0, []),
  (68, .ireturn, 1, 0, 0, [])]
theorem kk_X7_gainsOf : (k_X7_gainsOf.all fun e => mChk cX7_gainsOf e.1 e.2) = true := by decide +kernel
def l_X7_gainsOf : List (Nat × Nat × (mG → mT)) := [(3 * 345, 1 + 1, t_X2_become), (3 * 355, 1 + 1, t_X2_lay), (3 * 348 + 1, 3, (t_X7_mostMade 12)), (3 * 107 + 1, 2, t_X7_at)]
def f_X7_gainsOf (g : mG) : mF := (mLk k_X7_gainsOf, mLk fl_RX7, mLk (l_X7_gainsOf.map fun e => (e.1, e.2.1, e.2.2 g)), mLk ([] : List (Nat × mV)), mLk ([] : List (Nat × mV)), some .int)
theorem m_X7_gainsOf (g : mG) : mMono (f_X7_gainsOf g) := mMonoL (g := g) (l := l_X7_gainsOf) (List.forall_mem_cons.mpr ⟨mo_X2_become, List.forall_mem_cons.mpr ⟨mo_X2_lay, List.forall_mem_cons.mpr ⟨(mo_X7_mostMade 12), List.forall_mem_cons.mpr ⟨mo_X7_at, fun _ h => absurd h List.not_mem_nil⟩⟩⟩⟩) rfl

theorem v_go_0 (g : mG) (M : mM) (P : mP) (y : Int32)
    (h : ∃ x1 : aP, pre_X2_become x1 [.inr (some 29), .inr (some 16)] M ∧ ∀ M2 : mM, post_X2_become x1 [.inr (some 29), .inr (some 16)] M M2 → (∃ x3 : Nat × aP × Nat, pre_X2_lay x3 [.inr (some 29), .inl y] M2 ∧ ∀ M4 : mM, post_X2_lay x3 [.inr (some 29), .inl y] M2 M4 → (∃ x5 : Nat × aX × (Nat → Int32) × List Nat, pre_X7_mostMade 12 x5 [.inr (some 29), .inl ((M 16 8) &&& (nI 1)), .inl (nI 1)] M4 ∧ ∀ (r7 : Int32) (M6 : mM), post_X7_mostMade 12 x5 [.inr (some 29), .inl ((M 16 8) &&& (nI 1)), .inl (nI 1)] M4 r7 M6 → (P (some (.inl (r7 - (aAt (M6 23) 2 ((M 16 8) &&& (nI 1)))))) M6)))) :
    mRun (mSx g) (f_X7_gainsOf g) P (0, [some (.inr (some 0)), some (.inl y), none], [], M) := mRun.vc (m_X7_gainsOf g) [] 33 h

theorem aG_le {x : aX} {dl : Nat → Int32} {cs : List Nat} {c : Nat} (hok : aOk x dl cs) (hn : cs.length < 32) (hc : c < 32) (hb : bt (aAl x dl cs) c = true) : aWn x cs (aSd x cs) (cs.length / 4) ≤ aV x dl (aSd x cs) (31 - cs.length) (cs ++ [c]) ∧ aG x dl cs c ≤ 8 := by
  have h2 := aV_bd (x := x) (dl := dl) (s := aSd x cs) (31 - cs.length) (cs ++ [c]) (by rw [List.length_append, List.length_singleton]; omega) (al_ok hok hn hc hb)
  have h3 := aWn_step (x := x) (cs := cs) (c := c) (s := aSd x cs) hn
  unfold aG
  exact ⟨by omega, by omega⟩
theorem run_X7_gainsOf : mRunOf 3 t_X7_gainsOf f_X7_gainsOf := fun g as M P hT => by
  obtain ⟨⟨x, dl, cs, c⟩, ⟨rfl, h1, h2, h3, h4, h5, h6⟩, hP⟩ := hT
  dsimp only at h1 h2 h3 h4 h5 h6
  refine ⟨Nat.le_of_ble_eq_true rfl, v_go_0 g M P _ ?_⟩
  rw [sd_at h1]
  have hok2 := al_ok h2 h4 h5 h6
  have hl2 : (cs ++ [c]).length = cs.length + 1 := by rw [List.length_append, List.length_singleton]
  refine ⟨(x, dl, 0, 0, cs), ⟨rfl, h1, h2.2.2.1⟩, fun M2 k2 => ?_⟩
  refine ⟨(29, (x, dl, 0, 0, cs), c), ⟨rfl, rfl, k2.1, h2, h4, h5, aAl_sub h6⟩, fun M4 k4 => ?_⟩
  refine ⟨(aSd x cs, x, dl, cs ++ [c]), ⟨1, rfl, by decide, rfl, aSd_lt, k4.1, hok2, by rw [hl2]; omega⟩, fun r7 M6 k6 => ?_⟩
  have hF : FrP 29 M M6 := (k2.2.trans k4.2).trans k6.2.2
  have e1 : r7 = nI (aV x dl (aSd x cs) (31 - cs.length) (cs ++ [c])) := by
    rw [show 31 - cs.length = 32 - (cs ++ [c]).length by rw [hl2]; omega]
    exact k6.1
  have hb := (aG_le h2 h4 h5 h6).1
  rw [hF 23 (by decide), won_at (p := 16) h1 aSd_lt, e1, pk_sub hb]
  exact hP _ _ ⟨rfl, hF⟩
theorem ok_X7_gainsOf : mOK yX7_gainsOf cX7_gainsOf 3 (some .int) 18 t_X7_gainsOf := mOK.of f_X7_gainsOf (by decide) (fun _ => rfl) (fun g => mCodeOK kk_X7_gainsOf) (fun g => mFldL fk_RX7 rfl) (fun g idx v h => by cases h) (fun g idx v h => by cases h) (mCalL (l := l_X7_gainsOf) (List.forall_mem_cons.mpr ⟨mSite.V (idx := 345) ok_X2_become (by decide) (by decide) rv_X2_become wc_X2_become wk_RX7_345 wi_X2_become wl_X2_become wn_RX2 wd_X2_become, List.forall_mem_cons.mpr ⟨mSite.V (idx := 355) ok_X2_lay (by decide) (by decide) rv_X2_lay wc_X2_lay wk_RX7_355 wi_X2_lay wl_X2_lay wn_RX2 wd_X2_lay, List.forall_mem_cons.mpr ⟨mSite.S (idx := 348) (ok_X7_mostMade 12) (by decide) (by decide) wc_X7_mostMade wk_RX7_348 wt_X7_mostMade wn_RX7 wd_X7_mostMade, List.forall_mem_cons.mpr ⟨mSite.S (idx := 107) ok_X7_at (by decide) (by decide) wc_X7_at wk_RX7_107 wt_X7_at wn_RX7 wd_X7_at, fun _ h => absurd h List.not_mem_nil⟩⟩⟩⟩) (fun _ => rfl)) run_X7_gainsOf

