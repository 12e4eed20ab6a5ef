/-! ===== THE REFERENCE: bids, passes; an act is done; gone through ===== -/
theorem RmT.bd {M M' : mM} {T : aT} {b' : aBd} (h : RmT M T) (hI : tInv T) (k : T.1.1 = 1) (h6 : M' 50 6 = nI b'.1.1) (hB : RmB M' b') (hk : ∀ k, k ≠ 6 → ¬ (8 ≤ k ∧ k ≤ 13) → M' 50 k = M 50 k) (hc : ∀ c, ¬ (c = 50 ∨ c = 56 ∨ c = 57) → M' c = M c) : RmT M' (T.1, b', T.2.2) ∧ FrR M M' := by
  obtain ⟨⟨h1, h2, h3, h4, h5⟩, hB0, hP, hS, hL⟩ := h
  refine ⟨⟨⟨(hk 5 (by decide) (by decide)).trans h1, ?_, (hk 7 (by decide) (by decide)).trans h3, (hk 14 (by decide) (by decide)).trans h4, (hk 15 (by decide) (by decide)).trans h5⟩, hB, RmP_fr hP (hk 19 (by decide) (by decide)) (fun c b1 b2 => hc c (by omega)) hI.len, RmSc_fr hS (fun k b1 b2 => hk k (by omega) (by omega)) (fun c b => hc c (by omega)), fun z => ?_⟩, fun c b => hc c (by omega), fun k b => hk k (by omega) (by omega)⟩
  · rw [h6, turnI_1 (T := (T.1, b', T.2.2)) k]
  · have z' : T.1.1 = 2 := z
    omega
theorem RmB.dbl {M M' : mM} {b b' : aBd} (h : RmB M b) (e1 : b'.2 = b.2) (h12 : M' 50 12 = nI b'.1.2.1) (h13 : M' 50 13 = nI b'.1.2.2) (hk : ∀ k, 8 ≤ k → k ≤ 11 → M' 50 k = M 50 k) (hc : ∀ c, c = 56 ∨ c = 57 → M' c = M c) : RmB M' b' := by
  obtain ⟨h1, h2, h3, h4, h5, h6, h7⟩ := h
  unfold RmB
  rw [e1]
  exact ⟨(hk 8 (by decide) (by decide)).trans h1, (hk 9 (by decide) (by decide)).trans h2, (hk 10 (by decide) (by decide)).trans h3, (hk 11 (by decide) (by decide)).trans h4, h12, h13, fun s t hs ht => (congrFun (hc (56 + s) (by omega)) t).trans (h7 s t hs ht)⟩
theorem aLd_nil (x : aX) : aLd x [] (([] : List Nat).length / 4) = x.2.2.2 := by
  rw [List.length_nil, Nat.zero_div]
  rfl
theorem aTn_nil2 (x : aX) (h : x.2.2.2 < 4) : aTn x [] ([] : List Nat).length = x.2.2.2 := by
  unfold aTn
  rw [aLd_nil, List.length_nil, Nat.zero_mod, Nat.add_zero, Nat.mod_eq_of_lt h]
theorem RmP_x {M : mM} {x x' : aX} {dl : Nat → Int32} (h : RmP M x dl 0 0 []) : RmP M x' dl 0 0 [] := by
  obtain ⟨r1, r2, r3, r4, r5, r6, r7, r8, r9⟩ := h
  refine ⟨r1, r2, r3, r4, r5, fun i hi => absurd hi (Nat.not_lt_zero _), fun i hi => ?_, r8, r9⟩
  rw [r7 i hi, if_neg (by simp), if_neg (by simp)]
def pre_X8_bids (q : aT × Nat × Nat) (as : List mV) (M : mM) : Prop := as = [.inr (some 50), .inl (nI q.2.1), .inl (nI q.2.2)] ∧ RmT M q.1 ∧ tInv q.1 ∧ q.1.1.1 = 1 ∧ q.2.2 < 5
def post_X8_bids (q : aT × Nat × Nat) (_ : List mV) (M : mM) (M' : mM) : Prop := RmT M' (q.1.1, bBid q.1.2.1 q.2.1 q.2.2, q.1.2.2) ∧ FrR M M'
abbrev t_X8_bids : mG → mT := mRv pre_X8_bids post_X8_bids
theorem mo_X8_bids : mMn t_X8_bids := mRv_mono
theorem rv_X8_bids : mHasR yX8_bids 2 t_X8_bids := by
  intro g as M P hT hl
  obtain ⟨q, ⟨h2, -⟩, -⟩ := hT
  exact ⟨_, _, h2, is_X8 g _ rfl⟩
def k_X8_bids : List (Nat × mI) := [(0, .aload_n 0, 1, 0, 0, []),
  (1, .iload_n 1, 1, 1, 0, []),
  (2, .putfield 85, 3, 0, 0, []),
  (5, .aload_n 0, 1, 0, 0, []),
  (6, .iload_n 2, 1, 2, 0, []),
  (7, .putfield 82, 3, 0, 0, []),
  (10, .aload_n 0, 1, 0, 0, []),
  (11, .aload_n 0, 1, 0, 0, []),
  (12, .getfield 103, 3, 0, 0, []),
  (15, .putfield 88, 3, 0, 0, []),
  (18, .aload_n 0, 1, 0, 0, []),
  (19, .iconst 0, 1, 0, nI 0, []),
  (20, .putfield 91, 3, 0, 0, []),
  (23, .aload_n 0, 1, 0, 0, []),
  (24, .iconst 0, 1, 0, nI 0, []),
  (25, .putfield 94, 3, 0, 0, []),
  (28, .aload_n 0, 1, 0, 0, []),
  (29, .getfield 24, 3, 0, 0, []),
  (32, .aload_n 0, 1, 0, 0, []),
  (33, .getfield 103, 3, 0, 0, []),
  (36, .invokestatic 151, 3, 0, 0, []),
  (39, .aaload, 1, 1, 0, []),
  (40, .iload_n 2, 1, 2, 0, []),
  (41, .iaload, 1, 1, 0, []),
  (42, .iconst (-1), 1, 0, -1, []),
  (43, .if_icmp .ne 21, 3, 64, 0, []),
  (46, .aload_n 0, 1, 0, 0, []),
  (47, .getfield 24, 3, 0, 0, []),
  (50, .aload_n 0, 1, 0, 0, []),
  (51, .getfield 103, 3, 0, 0, []),
  (54, .invokestatic 151, 3, 0, 0, []),
  (57, .aaload, 1, 1, 0, []),
  (58, .iload_n 2, 1, 2, 0, []),
  (59, .aload_n 0, 1, 0, 0, []),
  (60, .getfield 103, 3, 0, 0, []),
  (63, .iastore, 1, 1, 0, []),
  (64, .aload_n 0, 1, 0, 0, []),
  (65, .aload_n 0, 1, 0, 0, []),
  (66, .getfield 103, 3, 0, 0, []),
  (69, .iconst 1, 1, 0, nI 1, []),
  (70, .iadd, 1, 0, 0, []),
  (71, .iconst 4, 1, 0, nI 4, []),
  (72, .irem, 1, 0, 0, []),
  (73, .putfield 103, 3, 0, 0, []),
  (76, .return_, 1, 0, 0, [])]
theorem kk_X8_bids : (k_X8_bids.all fun e => mChk cX8_bids e.1 e.2) = true := by decide +kernel
def l_X8_bids : List (Nat × Nat × (mG → mT)) := [(3 * 151 + 1, 1, t_X8_side)]
def f_X8_bids (g : mG) : mF := (mLk k_X8_bids, mLk fl_RX8, mLk (l_X8_bids.map fun e => (e.1, e.2.1, e.2.2 g)), mLk ([] : List (Nat × mV)), mLk ([] : List (Nat × mV)), none)
theorem m_X8_bids (g : mG) : mMono (f_X8_bids g) := mMonoL (g := g) (l := l_X8_bids) (List.forall_mem_cons.mpr ⟨mo_X8_side, fun _ h => absurd h List.not_mem_nil⟩) rfl

set_option maxRecDepth 100000 in
theorem v_bi (g : mG) (M : mM) (P : mP) (n s : Int32)
    (h : let M1 : mM := mW1 M 50 10 n; let M2 : mM := mW1 M1 50 9 s; let M3 : mM := mW1 M2 50 11 (M 50 6); let M4 : mM := mW1 M3 50 12 (nI 0); let M5 : mM := mW1 M4 50 13 (nI 0); ∃ (n6 k7 c8 : Nat) (rs9 : List (Option Nat)), (mSx g)[55]? = some (1, n6, rs9) ∧ (fSide (M 50 6)) = nI k7 ∧ k7 < n6 ∧ n6 < 2 ^ 31 ∧ rs9[k7]? = some (some c8) ∧ (∃ (n10 : Nat) (rs11 : List (Option Nat)), (mSx g)[c8]? = some (0, n10, rs11) ∧ vp_in s n10 ∧ ((¬ (M5 c8 s.toNatClampNeg) = (-1) → ¬ (nI 4) = 0 ∧ (let M13 : mM := mW1 M5 50 6 (((M 50 6) + (nI 1)) - ((M 50 6) + (nI 1)) / (nI 4) * (nI 4)); P none M13)) ∧ (¬ (¬ (M5 c8 s.toNatClampNeg) = (-1)) → ∃ (n14 k15 c16 : Nat) (rs17 : List (Option Nat)), (mSx g)[55]? = some (1, n14, rs17) ∧ (fSide (M 50 6)) = nI k15 ∧ k15 < n14 ∧ n14 < 2 ^ 31 ∧ rs17[k15]? = some (some c16) ∧ (∃ (n18 : Nat) (rs19 : List (Option Nat)), (mSx g)[c16]? = some (0, n18, rs19) ∧ vp_in s n18 ∧ (let M20 : mM := mW1 M5 c16 s.toNatClampNeg (M 50 6); ¬ (nI 4) = 0 ∧ (let M21 : mM := mW1 M20 50 6 (((M20 50 6) + (nI 1)) - ((M20 50 6) + (nI 1)) / (nI 4) * (nI 4)); P none M21))))))) :
    mRun (mSx g) (f_X8_bids g) P (0, [some (.inr (some 50)), some (.inl n), some (.inl s)], [], M) := mRun.vc (m_X8_bids g) [] 45 h

theorem bi_run (g : mG) (M : mM) (P : mP) (T : aT) (n s : Nat) (hR : RmT M T) (hI : tInv T) (k : T.1.1 = 1) (hs : s < 5) (hP : ∀ M', RmT M' (T.1, bBid T.2.1 n s, T.2.2) ∧ FrR M M' → P none M') : mRun (mSx g) (f_X8_bids g) P (0, [some (.inr (some 50)), some (.inl (nI n)), some (.inl (nI s))], [], M) := by
  have ht : T.2.1.1.1 < 4 := hI.2.1.1
  have h6 : M 50 6 = nI T.2.1.1.1 := hR.1.2.1.trans (turnI_1 k)
  have hB := hR.2.1
  have cs : (nI s).toNatClampNeg = s := nI_clamp (by omega)
  refine v_bi g M P _ _ ?_
  rw [h6, fSide_nI (by omega), cs]
  intro M1 M2 M3 M4 M5
  have f5 : ∀ k, ¬ (8 ≤ k ∧ k ≤ 13) → M5 50 k = M 50 k := fun k h => by
    show mW1 (mW1 (mW1 (mW1 (mW1 M 50 10 _) 50 9 _) 50 11 _) 50 12 _) 50 13 _ 50 k = _
    rw [mW1_k (by omega), mW1_k (by omega), mW1_k (by omega), mW1_k (by omega), mW1_k (by omega)]
  have c5 : ∀ c, c ≠ 50 → M5 c = M c := fun c h => by
    show mW1 (mW1 (mW1 (mW1 (mW1 M 50 10 _) 50 9 _) 50 11 _) 50 12 _) 50 13 _ c = _
    rw [mW1_c h, mW1_c h, mW1_c h, mW1_c h, mW1_c h]
  have u : M5 50 8 = M 50 8 ∧ M5 50 9 = nI s ∧ M5 50 10 = nI n ∧ M5 50 11 = nI T.2.1.1.1 ∧ M5 50 12 = nI 0 ∧ M5 50 13 = nI 0 := by
    show mW1 (mW1 (mW1 (mW1 (mW1 M 50 10 (nI n)) 50 9 (nI s)) 50 11 (nI T.2.1.1.1)) 50 12 (nI 0)) 50 13 (nI 0) 50 8 = _ ∧ mW1 (mW1 (mW1 (mW1 (mW1 M 50 10 (nI n)) 50 9 (nI s)) 50 11 (nI T.2.1.1.1)) 50 12 (nI 0)) 50 13 (nI 0) 50 9 = _ ∧ mW1 (mW1 (mW1 (mW1 (mW1 M 50 10 (nI n)) 50 9 (nI s)) 50 11 (nI T.2.1.1.1)) 50 12 (nI 0)) 50 13 (nI 0) 50 10 = _ ∧ mW1 (mW1 (mW1 (mW1 (mW1 M 50 10 (nI n)) 50 9 (nI s)) 50 11 (nI T.2.1.1.1)) 50 12 (nI 0)) 50 13 (nI 0) 50 11 = _ ∧ mW1 (mW1 (mW1 (mW1 (mW1 M 50 10 (nI n)) 50 9 (nI s)) 50 11 (nI T.2.1.1.1)) 50 12 (nI 0)) 50 13 (nI 0) 50 12 = _ ∧ mW1 (mW1 (mW1 (mW1 (mW1 M 50 10 (nI n)) 50 9 (nI s)) 50 11 (nI T.2.1.1.1)) 50 12 (nI 0)) 50 13 (nI 0) 50 13 = _
    simp (disch := decide) only [mW1_k, mW1_s]
    exact ⟨trivial, trivial, trivial, trivial, trivial, trivial⟩
  obtain ⟨u8, u9, u10, u11, u12, u13⟩ := u
  clear_value M5
  have hnm : ∀ s' t, s' < 2 → t < 5 → M5 (56 + s') t = oI (T.2.1.2.2.2 (5 * s' + t)) := fun s' t a b => (congrFun (c5 (56 + s') (by omega)) t).trans (hB.2.2.2.2.2.2 s' t a b)
  have fin : ∀ M6 : mM, (∀ c, ¬ (c = 56 ∨ c = 57) → M6 c = M5 c) → (∀ s' t, s' < 2 → t < 5 → M6 (56 + s') t = oI ((bBid T.2.1 n s).2.2.2 (5 * s' + t))) → P none (mW1 M6 50 6 (nI (nx T.2.1.1.1))) := fun M6 h1 h2 => by
    have g50 : ∀ k, k ≠ 6 → mW1 M6 50 6 (nI (nx T.2.1.1.1)) 50 k = M5 50 k := fun k hk => (mW1_k hk).trans (congrFun (h1 50 (by decide)) k)
    have gc : ∀ c, c ≠ 50 → mW1 M6 50 6 (nI (nx T.2.1.1.1)) c = M6 c := fun c hc => mW1_c hc
    refine hP _ (hR.bd hI k mW1_s ⟨(g50 8 (by decide)).trans (u8.trans hB.1), (g50 9 (by decide)).trans u9, (g50 10 (by decide)).trans u10, (g50 11 (by decide)).trans u11, (g50 12 (by decide)).trans u12, (g50 13 (by decide)).trans u13, fun s' t a b => ?_⟩ (fun k a b => (g50 k a).trans (f5 k b)) (fun c hc => ?_))
    · rw [gc (56 + s') (by omega)]
      exact h2 s' t a b
    · rw [gc c (by omega), h1 c (by omega), c5 c (by omega)]
  refine rr_at (i := T.2.1.1.1 % 2) o_named (by decide) (by omega) (ri_at o_named (by omega) hs (by decide) ?_)
  rw [hnm _ _ (by omega) hs, nI_add, nI_mod4 (by omega)]
  refine ⟨fun hz => ⟨n4, ?_⟩, fun hz => ?_⟩
  · refine fin M5 (fun _ _ => rfl) (fun s' t a b => ?_)
    rw [hnm s' t a b]
    show _ = oI (if 5 * s' + t = 5 * (T.2.1.1.1 % 2) + s ∧ T.2.1.2.2.2 (5 * s' + t) = none then some T.2.1.1.1 else T.2.1.2.2.2 (5 * s' + t))
    rw [if_neg]
    intro z
    rw [← z.1, z.2] at hz
    exact hz rfl
  · have hn : T.2.1.2.2.2 (5 * (T.2.1.1.1 % 2) + s) = none := by
      have z := Classical.not_not.mp hz
      cases hq : T.2.1.2.2.2 (5 * (T.2.1.1.1 % 2) + s) with
      | none => rfl
      | some d =>
        have hd := (hI.2.1.2.2.2.2 _ d hq).1
        rw [hq] at z
        exact absurd z (ne_m1 (by omega))
    refine rr_at (i := T.2.1.1.1 % 2) o_named (by decide) (by omega) (ri_at o_named (by omega) hs (by decide) ?_)
    intro M20
    have e20 : M20 50 6 = nI T.2.1.1.1 := by
      show mW1 M5 (56 + T.2.1.1.1 % 2) s _ 50 6 = _
      rw [mW1_c (by omega), f5 6 (by decide)]
      exact h6
    rw [e20, nI_add, nI_mod4 (by omega)]
    refine ⟨n4, ?_⟩
    refine fin M20 (fun c hc => mW1_c (by omega)) (fun s' t a b => ?_)
    show mW1 M5 (56 + T.2.1.1.1 % 2) s _ (56 + s') t = oI (if 5 * s' + t = 5 * (T.2.1.1.1 % 2) + s ∧ T.2.1.2.2.2 (5 * s' + t) = none then some T.2.1.1.1 else T.2.1.2.2.2 (5 * s' + t))
    by_cases e : 5 * s' + t = 5 * (T.2.1.1.1 % 2) + s
    · have e1 : s' = T.2.1.1.1 % 2 := by omega
      have e2 : t = s := by omega
      rw [e, hn, if_pos ⟨rfl, rfl⟩, e1, e2, mW1_s]
      rfl
    · rw [if_neg (fun z => e z.1), ← hnm s' t a b]
      by_cases e1 : s' = T.2.1.1.1 % 2
      · rw [e1, mW1_k (by omega)]
      · rw [mW1_c (by omega)]
theorem run_X8_bids : mRunOf 3 t_X8_bids f_X8_bids := fun g as M P hT => by
  obtain ⟨⟨T, n, s⟩, ⟨rfl, h2, h3, h4, h5⟩, hP⟩ := hT
  refine ⟨Nat.le_of_ble_eq_true rfl, ?_⟩
  dsimp only at h2 h3 h4 h5
  exact bi_run g M P T n s h2 h3 h4 h5 (fun M' a => hP M' a)
theorem ok_X8_bids : mOK yX8_bids cX8_bids 3 (none) 2 t_X8_bids := mOK.of f_X8_bids (by decide) (fun _ => rfl) (fun g => mCodeOK kk_X8_bids) (fun g => mFldL fk_RX8 rfl) (fun g idx v h => by cases h) (fun g idx v h => by cases h) (mCalL (l := l_X8_bids) (List.forall_mem_cons.mpr ⟨mSite.S (idx := 151) ok_X8_side (by decide) (by decide) wc_X8_side wk_RX8_151 wt_X8_side wn_RX8 wd_X8_side, fun _ h => absurd h List.not_mem_nil⟩) (fun _ => rfl)) run_X8_bids

def pre_X8_passes (q : aT) (as : List mV) (M : mM) : Prop := as = [.inr (some 50)] ∧ RmT M q ∧ tInv q ∧ q.1.1 = 1
def post_X8_passes (q : aT) (_ : List mV) (M : mM) (M' : mM) : Prop := RmT M' (tPass q) ∧ FrR M M'
abbrev t_X8_passes : mG → mT := mRv pre_X8_passes post_X8_passes
theorem mo_X8_passes : mMn t_X8_passes := mRv_mono
theorem rv_X8_passes : mHasR yX8_passes 0 t_X8_passes := by
  intro g as M P hT hl
  obtain ⟨q, ⟨h2, -⟩, -⟩ := hT
  exact ⟨_, _, h2, is_X8 g _ rfl⟩
def k_X8_passes : List (Nat × mI) := [(0, .aload_n 0, 1, 0, 0, []),
  (1, .dup, 1, 0, 0, []),
  (2, .getfield 94, 3, 0, 0, []),
  (5, .iconst 1, 1, 0, nI 1, []),
  (6, .iadd, 1, 0, 0, []),
  (7, .putfield 94, 3, 0, 0, []),
  (10, .aload_n 0, 1, 0, 0, []),
  (11, .aload_n 0, 1, 0, 0, []),
  (12, .getfield 103, 3, 0, 0, []),
  (15, .iconst 1, 1, 0, nI 1, []),
  (16, .iadd, 1, 0, 0, []),
  (17, .iconst 4, 1, 0, nI 4, []),
  (18, .irem, 1, 0, 0, []),
  (19, .putfield 103, 3, 0, 0, []),
  (22, .aload_n 0, 1, 0, 0, []),
  (23, .getfield 85, 3, 0, 0, []),
  (26, .iconst (-1), 1, 0, -1, []),
  (27, .if_icmp .ne 16, 3, 43, 0, []),
  (30, .aload_n 0, 1, 0, 0, []),
  (31, .getfield 94, 3, 0, 0, []),
  (34, .iconst 4, 1, 0, nI 4, []),
  (35, .if_icmp .ne 8, 3, 43, 0, []),
  (38, .aload_n 0, 1, 0, 0, []),
  (39, .iconst 0, 1, 0, nI 0, []),
  (40, .invokevirtual 171, 3, 0, 0, []),
  (43, .aload_n 0, 1, 0, 0, []),
  (44, .getfield 85, 3, 0, 0, []),
  (47, .iconst (-1), 1, 0, -1, []),
  (48, .if_icmp .eq 11, 3, 59, 0, []),
  (51, .aload_n 0, 1, 0, 0, []),
  (52, .getfield 94, 3, 0, 0, []),
  (55, .iconst 3, 1, 0, nI 3, []),
  (56, .if_icmp .ge 4, 3, 60, 0, []),
  (59, .return_, 1, 0, 0, []),
  (60, .aload_n 0, 1, 0, 0, []),
  (61, .aload_n 0, 1, 0, 0, []),
  (62, .getfield 24, 3, 0, 0, []),
  (65, .aload_n 0, 1, 0, 0, []),
  (66, .getfield 88, 3, 0, 0, []),
  (69, .invokestatic 151, 3, 0, 0, []),
  (72, .aaload, 1, 1, 0, []),
  (73, .aload_n 0, 1, 0, 0, []),
  (74, .getfield 82, 3, 0, 0, []),
  (77, .iaload, 1, 1, 0, []),
  (78, .putfield 79, 3, 0, 0, []),
  (81, .aload_n 0, 1, 0, 0, []),
  (82, .iconst 2, 1, 0, nI 2, []),
  (83, .putfield 100, 3, 0, 0, []),
  (86, .aload_n 0, 1, 0, 0, []),
  (87, .aload_n 0, 1, 0, 0, []),
  (88, .getfield 79, 3, 0, 0, []),
  (91, .iconst 1, 1, 0, nI 1, []),
  (92, .iadd, 1, 0, 0, []),
  (93, .iconst 4, 1, 0, nI 4, []),
  (94, .irem, 1, 0, 0, []),
  (95, .invokevirtual 175, 3, 0, 0, []),
  (98, .return_, 1, 0, 0, [])]
theorem kk_X8_passes : (k_X8_passes.all fun e => mChk cX8_passes e.1 e.2) = true := by decide +kernel
def l_X8_passes : List (Nat × Nat × (mG → mT)) := [(3 * 171, 1 + 1, t_X8_endsDeal), (3 * 151 + 1, 1, t_X8_side), (3 * 175, 1 + 1, t_X8_leads)]
def f_X8_passes (g : mG) : mF := (mLk k_X8_passes, mLk fl_RX8, mLk (l_X8_passes.map fun e => (e.1, e.2.1, e.2.2 g)), mLk ([] : List (Nat × mV)), mLk ([] : List (Nat × mV)), none)
theorem m_X8_passes (g : mG) : mMono (f_X8_passes g) := mMonoL (g := g) (l := l_X8_passes) (List.forall_mem_cons.mpr ⟨mo_X8_endsDeal, List.forall_mem_cons.mpr ⟨mo_X8_side, List.forall_mem_cons.mpr ⟨mo_X8_leads, fun _ h => absurd h List.not_mem_nil⟩⟩⟩) rfl

set_option maxRecDepth 100000 in
theorem v_ps (g : mG) (M : mM) (P : mP) 
    (h : let M1 : mM := mW1 M 50 13 ((M 50 13) + (nI 1)); ¬ (nI 4) = 0 ∧ (let M2 : mM := mW1 M1 50 6 (((M 50 6) + (nI 1)) - ((M 50 6) + (nI 1)) / (nI 4) * (nI 4)); (¬ (M 50 10) = (-1) → ((M 50 10) = (-1) → P none M2) ∧ (¬ ((M 50 10) = (-1)) → ((nI 3) ≤ ((M 50 13) + (nI 1)) → ∃ (n6 k7 c8 : Nat) (rs9 : List (Option Nat)), (mSx g)[55]? = some (1, n6, rs9) ∧ (fSide (M 50 11)) = nI k7 ∧ k7 < n6 ∧ n6 < 2 ^ 31 ∧ rs9[k7]? = some (some c8) ∧ (∃ (n10 : Nat) (rs11 : List (Option Nat)), (mSx g)[c8]? = some (0, n10, rs11) ∧ vp_in (M 50 9) n10 ∧ (let M12 : mM := mW1 M2 50 8 (M2 c8 ((M 50 9).toNatClampNeg)); let M13 : mM := mW1 M12 50 5 (nI 2); ¬ (nI 4) = 0 ∧ (let M14 : mM := mW1 M13 50 6 (((M2 c8 ((M 50 9).toNatClampNeg)) + (nI 1)) - ((M2 c8 ((M 50 9).toNatClampNeg)) + (nI 1)) / (nI 4) * (nI 4)); vp_in (M 50 19) 8 ∧ (let M15 : mM := mW1 M14 60 ((M 50 19).toNatClampNeg) (((M2 c8 ((M 50 9).toNatClampNeg)) + (nI 1)) - ((M2 c8 ((M 50 9).toNatClampNeg)) + (nI 1)) / (nI 4) * (nI 4)); P none M15))))) ∧ (¬ ((nI 3) ≤ ((M 50 13) + (nI 1))) → P none M2))) ∧ (¬ (¬ (M 50 10) = (-1)) → (¬ ((M 50 13) + (nI 1)) = (nI 4) → ((M 50 10) = (-1) → P none M2) ∧ (¬ ((M 50 10) = (-1)) → ((nI 3) ≤ ((M 50 13) + (nI 1)) → ∃ (n19 k20 c21 : Nat) (rs22 : List (Option Nat)), (mSx g)[55]? = some (1, n19, rs22) ∧ (fSide (M 50 11)) = nI k20 ∧ k20 < n19 ∧ n19 < 2 ^ 31 ∧ rs22[k20]? = some (some c21) ∧ (∃ (n23 : Nat) (rs24 : List (Option Nat)), (mSx g)[c21]? = some (0, n23, rs24) ∧ vp_in (M 50 9) n23 ∧ (let M25 : mM := mW1 M2 50 8 (M2 c21 ((M 50 9).toNatClampNeg)); let M26 : mM := mW1 M25 50 5 (nI 2); ¬ (nI 4) = 0 ∧ (let M27 : mM := mW1 M26 50 6 (((M2 c21 ((M 50 9).toNatClampNeg)) + (nI 1)) - ((M2 c21 ((M 50 9).toNatClampNeg)) + (nI 1)) / (nI 4) * (nI 4)); vp_in (M 50 19) 8 ∧ (let M28 : mM := mW1 M27 60 ((M 50 19).toNatClampNeg) (((M2 c21 ((M 50 9).toNatClampNeg)) + (nI 1)) - ((M2 c21 ((M 50 9).toNatClampNeg)) + (nI 1)) / (nI 4) * (nI 4)); P none M28))))) ∧ (¬ ((nI 3) ≤ ((M 50 13) + (nI 1))) → P none M2))) ∧ (¬ (¬ ((M 50 13) + (nI 1)) = (nI 4)) → ∃ x29 : aT × Nat, pre_X8_endsDeal x29 [.inr (some 50), .inl (nI 0)] M2 ∧ ∀ M30 : mM, post_X8_endsDeal x29 [.inr (some 50), .inl (nI 0)] M2 M30 → (((M30 50 10) = (-1) → P none M30) ∧ (¬ ((M30 50 10) = (-1)) → ((nI 3) ≤ (M30 50 13) → ∃ (n33 k34 c35 : Nat) (rs36 : List (Option Nat)), (mSx g)[55]? = some (1, n33, rs36) ∧ (fSide (M30 50 11)) = nI k34 ∧ k34 < n33 ∧ n33 < 2 ^ 31 ∧ rs36[k34]? = some (some c35) ∧ (∃ (n37 : Nat) (rs38 : List (Option Nat)), (mSx g)[c35]? = some (0, n37, rs38) ∧ vp_in (M30 50 9) n37 ∧ (let M39 : mM := mW1 M30 50 8 (M30 c35 ((M30 50 9).toNatClampNeg)); let M40 : mM := mW1 M39 50 5 (nI 2); ¬ (nI 4) = 0 ∧ (let M41 : mM := mW1 M40 50 6 (((M30 c35 ((M30 50 9).toNatClampNeg)) + (nI 1)) - ((M30 c35 ((M30 50 9).toNatClampNeg)) + (nI 1)) / (nI 4) * (nI 4)); vp_in (M30 50 19) 8 ∧ (let M42 : mM := mW1 M41 60 ((M30 50 19).toNatClampNeg) (((M30 c35 ((M30 50 9).toNatClampNeg)) + (nI 1)) - ((M30 c35 ((M30 50 9).toNatClampNeg)) + (nI 1)) / (nI 4) * (nI 4)); P none M42))))) ∧ (¬ ((nI 3) ≤ (M30 50 13)) → P none M30))))))) :
    mRun (mSx g) (f_X8_passes g) P (0, [some (.inr (some 50))], [], M) := mRun.vc (m_X8_passes g) [] 56 h

theorem ps_run (g : mG) (M : mM) (P : mP) (T : aT) (hR : RmT M T) (hI : tInv T) (k : T.1.1 = 1) (hP : ∀ M', RmT M' (tPass T) ∧ FrR M M' → P none M') : mRun (mSx g) (f_X8_passes g) P (0, [some (.inr (some 50))], [], M) := by
  have ht : T.2.1.1.1 < 4 := hI.2.1.1
  have h6 : M 50 6 = nI T.2.1.1.1 := hR.1.2.1.trans (turnI_1 k)
  have hB := hR.2.1
  have h13 : M 50 13 = nI T.2.1.1.2.2 := hB.2.2.2.2.2.1
  obtain ⟨i1, i2, i3, i4, i5⟩ := hI.2.2.1 k
  refine v_ps g M P ?_
  rw [h6, h13, nI_add, nI_add, nI_mod4 (by omega)]
  intro M1
  refine ⟨n4, ?_⟩
  intro M2
  have f2 : ∀ k, k ≠ 6 → k ≠ 13 → M2 50 k = M 50 k := fun k a b => by
    show mW1 (mW1 M 50 13 _) 50 6 _ 50 k = _
    rw [mW1_k a, mW1_k b]
  have c2 : ∀ c, c ≠ 50 → M2 c = M c := fun c h => by
    show mW1 (mW1 M 50 13 _) 50 6 _ c = _
    rw [mW1_c h, mW1_c h]
  have t6 : M2 50 6 = nI (nx T.2.1.1.1) := mW1_s
  have t13 : M2 50 13 = nI (T.2.1.1.2.2 + 1) := by
    show mW1 (mW1 M 50 13 _) 50 6 _ 50 13 = _
    rw [mW1_k (by decide), mW1_s]
  clear_value M2
  have hM2 := hR.bd (b' := bPass T.2.1) hI k t6 (hB.dbl (b' := bPass T.2.1) rfl ((f2 12 (by decide) (by decide)).trans hB.2.2.2.2.1) t13 (fun k a b => f2 k (by omega) (by omega)) (fun c hc => c2 c (by omega))) (fun k a b => f2 k (by omega) (by omega)) (fun c hc => c2 c (by omega))
  cases ho : T.2.1.2.1 with
  | none =>
    have h10 : M 50 10 = -1 := by
      rw [hB.2.2.1, ho]
      rfl
    rw [h10]
    refine ⟨fun z => absurd rfl z, fun _ => ⟨fun hz => ⟨fun _ => ?_, fun z => absurd rfl z⟩, fun hz => ?_⟩⟩
    · refine hP M2 ?_
      rw [tPass_none ho, if_neg (fun z => hz ((nI_eq (by omega) (by decide)).mpr (by omega)))]
      exact hM2
    · have hz' := (nI_eq (b := 4) (by omega) (by decide)).mp (Classical.not_not.mp hz)
      refine ⟨((T.1, bPass T.2.1, T.2.2), 0), ⟨rfl, hM2.1.W, hI.1.2.1, hI.len, Or.inl rfl⟩, fun M30 k30 => ?_⟩
      obtain ⟨q1, q2⟩ := k30
      dsimp only at q1
      rw [if_pos rfl] at q1
      have e10 : M30 50 10 = -1 := by
        rw [q1.2.1.2.2.1]
        show oI (T.2.1.2.1.map fun q => q.1) = -1
        rw [ho]
        rfl
      rw [e10]
      refine ⟨fun _ => hP M30 ?_, fun z => absurd rfl z⟩
      rw [tPass_none ho, if_pos (by omega)]
      exact ⟨q1, hM2.2.trans q2⟩
  | some v =>
    obtain ⟨n, t, q⟩ := v
    have i2' := i2 (by rw [ho]; rfl)
    obtain ⟨d1, d2, d3, d4, d, d5⟩ := hI.2.1.2.2.2.1 n t q ho
    have d6 := hI.2.1.2.2.2.2 _ d d5
    have h10 : M 50 10 = nI n := by rw [hB.2.2.1, ho]; rfl
    have h9 : M 50 9 = nI t := by rw [hB.2.1, ho]; rfl
    have h11 : M 50 11 = nI q := by rw [hB.2.2.2.1, ho]; rfl
    have hn1 : ¬ nI n = -1 := ne_m1 (by omega)
    have ct : (nI t).toNatClampNeg = t := nI_clamp (by omega)
    have h19 : M 50 19 = nI 0 := by
      have := hR.2.2.1.1
      rw [i4] at this
      exact this
    rw [h10, h9, h11, fSide_nI (by omega), ct, h19]
    refine ⟨fun _ => ⟨fun z => absurd z hn1, fun _ => ⟨fun hz => ?_, fun hz => ?_⟩⟩, fun z => absurd hn1 z⟩
    · have hz' := (nI_leI (by omega) (by omega)).mp hz
      refine rr_at (i := q % 2) o_named (by decide) (by omega) (ri_at o_named (by omega) d3 (by decide) ?_)
      have hv : M2 (56 + q % 2) t = nI d := by
        rw [c2 _ (by omega), hB.2.2.2.2.2.2 _ _ (by omega) d3, d5]
        rfl
      rw [hv, nI_add, nI_mod4 (by omega)]
      intro M12 M13
      refine ⟨n4, ?_⟩
      intro M14
      refine ⟨vp_in_nI (by decide) (by decide), ?_⟩
      intro M15
      have e : tPass T = ((2, T.1.2), ((bPass T.2.1).1, (bPass T.2.1).2.1, T.2.1.2.2.2 (5 * (q % 2) + t), T.2.1.2.2.2), ((nI t, T.1.2.2.1, nI T.1.2.2.2, nx ((T.2.1.2.2.2 (5 * (q % 2) + t)).getD 0)), T.2.2.1.2.1, 0, 0, []), T.2.2.2) := by
        unfold tPass
        have ho2 : (bPass T.2.1).2.1 = some (n, t, q) := ho
        rw [ho2]
        exact if_pos hz'
      refine hP M15 ?_
      rw [e, d5]
      have c15 : ∀ c, c ≠ 50 → c ≠ 60 → M15 c = M c := fun c a b => by
        show mW1 (mW1 (mW1 (mW1 M2 50 8 _) 50 5 _) 50 6 _) 60 _ _ c = _
        rw [mW1_c b, mW1_c a, mW1_c a, mW1_c a, c2 c a]
      have f15 : ∀ k, k ≠ 5 → k ≠ 6 → k ≠ 8 → M15 50 k = M2 50 k := fun k a b c => by
        show mW1 (mW1 (mW1 (mW1 M2 50 8 _) 50 5 _) 50 6 _) 60 _ _ 50 k = _
        rw [mW1_c (by decide), mW1_k b, mW1_k a, mW1_k c]
      have u : M15 50 5 = nI 2 ∧ M15 50 6 = nI (nx d) ∧ M15 50 8 = nI d ∧ M15 60 0 = nI (nx d) := by
        show mW1 (mW1 (mW1 (mW1 M2 50 8 (nI d)) 50 5 (nI 2)) 50 6 (nI ((d + 1) % 4))) 60 (nI 0).toNatClampNeg (nI ((d + 1) % 4)) 50 5 = _ ∧ mW1 (mW1 (mW1 (mW1 M2 50 8 (nI d)) 50 5 (nI 2)) 50 6 (nI ((d + 1) % 4))) 60 (nI 0).toNatClampNeg (nI ((d + 1) % 4)) 50 6 = _ ∧ mW1 (mW1 (mW1 (mW1 M2 50 8 (nI d)) 50 5 (nI 2)) 50 6 (nI ((d + 1) % 4))) 60 (nI 0).toNatClampNeg (nI ((d + 1) % 4)) 50 8 = _ ∧ mW1 (mW1 (mW1 (mW1 M2 50 8 (nI d)) 50 5 (nI 2)) 50 6 (nI ((d + 1) % 4))) 60 (nI 0).toNatClampNeg (nI ((d + 1) % 4)) 60 0 = _
        rw [show (nI 0).toNatClampNeg = 0 from rfl]
        simp (disch := decide) only [mW1_k, mW1_s, mW1_c]
        exact ⟨trivial, rfl, trivial, rfl⟩
      obtain ⟨u5, u6, u8, u60⟩ := u
      clear_value M15
      have g15 : ∀ k, k ≠ 5 → k ≠ 6 → k ≠ 8 → k ≠ 13 → M15 50 k = M 50 k := fun k a b c e => (f15 k a b c).trans (f2 k b e)
      have hl0 : T.2.2.1.2.2.2.2 = [] := by rw [i4]
      have hP0 : RmP M (T.2.2.1.1) T.2.2.1.2.1 0 0 [] := by
        have := hR.2.2.1
        rw [i4] at this
        exact this
      obtain ⟨r1, r2, r3, r4, r5, r6, r7, r8, r9⟩ := hP0
      refine ⟨⟨⟨u5, ?_, (g15 7 (by decide) (by decide) (by decide) (by decide)).trans hR.1.2.2.1, (g15 14 (by decide) (by decide) (by decide) (by decide)).trans hR.1.2.2.2.1, (g15 15 (by decide) (by decide) (by decide) (by decide)).trans hR.1.2.2.2.2⟩, ⟨u8, ?_, ?_, ?_, ?_, ?_, fun s' t' a b => ?_⟩, RmP_x (x := T.2.2.1.1) ⟨(g15 19 (by decide) (by decide) (by decide) (by decide)).trans r1, fun q hq => ?_, fun q hq => ?_, fun i hi => ?_, fun i j _ h => absurd h (Nat.not_lt_zero _), fun i hi => absurd hi (Nat.not_lt_zero _), fun i hi => ?_, ?_, ?_⟩, RmSc_fr hR.2.2.2.1 (fun k a b => g15 k (by omega) (by omega) (by omega) (by omega)) (fun c hc => c15 c (by omega) (by omega)), fun _ => ?_⟩, fun c hc => c15 c (by omega) (by omega), fun k hk => g15 k (by omega) (by omega) (by omega) (by omega)⟩
      · rw [u6, turnI_2 rfl]
        show nI (nx d) = nI (aTn (nI t, T.1.2.2.1, nI T.1.2.2.2, nx d) [] ([] : List Nat).length)
        rw [aTn_nil2 _ nx_lt]
      · exact (f15 9 (by decide) (by decide) (by decide)).trans hM2.1.2.1.2.1
      · exact (f15 10 (by decide) (by decide) (by decide)).trans hM2.1.2.1.2.2.1
      · exact (f15 11 (by decide) (by decide) (by decide)).trans hM2.1.2.1.2.2.2.1
      · exact (f15 12 (by decide) (by decide) (by decide)).trans hM2.1.2.1.2.2.2.2.1
      · exact (f15 13 (by decide) (by decide) (by decide)).trans hM2.1.2.1.2.2.2.2.2.1
      · rw [c15 _ (by omega) (by omega)]
        exact hB.2.2.2.2.2.2 s' t' a b
      · rw [c15 _ (by decide) (by decide)]
        exact r2 q hq
      · rw [c15 _ (by decide) (by decide)]
        exact r3 q hq
      · rw [c15 _ (by decide) (by decide)]
        exact r4 i hi
      · rw [c15 _ (by decide) (by decide)]
        exact r7 i hi
      · rw [c15 _ (by decide) (by decide)]
        exact r8
      · rw [c15 _ (by decide) (by decide)]
        exact r9
      · show M15 60 (([] : List Nat).length / 4) = nI (aLd (nI t, T.1.2.2.1, nI T.1.2.2.2, nx d) [] (([] : List Nat).length / 4))
        rw [aLd_nil, List.length_nil, Nat.zero_div]
        exact u60
    · have hz' : ¬ 3 ≤ T.2.1.1.2.2 + 1 := fun z => hz (nI_le z (by omega))
      refine hP M2 ?_
      rw [tPass_few ho hz']
      exact hM2
theorem run_X8_passes : mRunOf 1 t_X8_passes f_X8_passes := fun g as M P hT => by
  obtain ⟨T, ⟨rfl, h2, h3, h4⟩, hP⟩ := hT
  refine ⟨Nat.le_of_ble_eq_true rfl, ?_⟩
  exact ps_run g M P T h2 h3 h4 (fun M' a => hP M' a)
theorem ok_X8_passes : mOK yX8_passes cX8_passes 1 (none) 4 t_X8_passes := mOK.of f_X8_passes (by decide) (fun _ => rfl) (fun g => mCodeOK kk_X8_passes) (fun g => mFldL fk_RX8 rfl) (fun g idx v h => by cases h) (fun g idx v h => by cases h) (mCalL (l := l_X8_passes) (List.forall_mem_cons.mpr ⟨mSite.V (idx := 171) ok_X8_endsDeal (by decide) (by decide) rv_X8_endsDeal wc_X8_endsDeal wk_RX8_171 wi_X8_endsDeal wl_X8_endsDeal wn_RX8 wd_X8_endsDeal, List.forall_mem_cons.mpr ⟨mSite.S (idx := 151) ok_X8_side (by decide) (by decide) wc_X8_side wk_RX8_151 wt_X8_side wn_RX8 wd_X8_side, List.forall_mem_cons.mpr ⟨mSite.V (idx := 175) ok_X8_leads (by decide) (by decide) rv_X8_leads wc_X8_leads wk_RX8_175 wi_X8_leads wl_X8_leads wn_RX8 wd_X8_leads, fun _ h => absurd h List.not_mem_nil⟩⟩⟩) (fun _ => rfl)) run_X8_passes

