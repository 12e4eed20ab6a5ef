/-! ===== CLASS TrickHouse: gone through; undo, image, back, replay ===== -/
theorem lA_len (l : List aE) : (lA l).length = l.length := List.length_map _
theorem lA_take (l : List aE) (n : Nat) : lA (l.take n) = (lA l).take n := List.map_take
theorem eA_at {l : List aE} {i : Nat} (h : i < l.length) : (eA l i).1 = (lA l)[i]'(by rw [lA_len]; exact h) := by
  unfold eA lA
  rw [List.getD_eq_getElem?_getD, List.getElem?_eq_getElem h, List.getElem_map]
  rfl
theorem eA_take {l : List aE} {i n : Nat} (h : i < n) : eA (l.take n) i = eA l i := by
  unfold eA
  rw [List.getD_eq_getElem?_getD, List.getD_eq_getElem?_getD, List.getElem?_take_of_lt h]
theorem tFold_next : ∀ {L : List aA} {T : aT} {i : Nat} (h : i < L.length), tFold (L.take (i + 1)) T = tStep (tFold (L.take i) T) L[i]
  | a :: L, T, 0, _ => rfl
  | a :: L, T, i + 1, h => tFold_next (L := L) (T := tStep T a) (i := i) (by simpa using h)
theorem okL_at : ∀ {L : List aA} {T : aT} {i : Nat} (h : i < L.length), okL L T → fit (tFold (L.take i) T) L[i]
  | a :: L, T, 0, _, k => k.1
  | a :: L, T, i + 1, h, k => okL_at (L := L) (T := tStep T a) (i := i) (by simpa using h) k.2
/-- the table after the first n acts -/
theorem zT_next {l : List aE} {i : Nat} (h : i < l.length) : zT (l.take (i + 1)) = tStep (zT (l.take i)) (eA l i).1 := by
  unfold zT
  rw [lA_take, lA_take, tFold_next (by rw [lA_len]; exact h), eA_at h]
theorem zT_fit {l : List aE} {i : Nat} (h : i < l.length) (k : lInv l) : fit (zT (l.take i)) (eA l i).1 := by
  unfold zT
  rw [lA_take, eA_at h]
  exact okL_at _ k.2
theorem lInv_take {l : List aE} (n : Nat) (h : lInv l) : lInv (l.take n) := by
  refine ⟨?_, ?_⟩
  · have := h.1
    rw [List.length_take]
    omega
  · rw [lA_take]
    exact okL_take n h.2
theorem zT_inv {l : List aE} (h : lInv l) : tInv (zT l) := okL_inv tInv_0 h.2
def pre_X7_goThrough (q : Nat × Nat × List aE) (as : List mV) (M : mM) : Prop := (q.1 = 13 ∨ q.1 = 26) ∧ as = [.inr (some 0), .inr (some q.1), .inl (nI q.2.1)] ∧ RpL 3 M q.2.2 ∧ lInv q.2.2 ∧ q.2.1 ≤ q.2.2.length
def post_X7_goThrough (q : Nat × Nat × List aE) (_ : List mV) (M : mM) (M' : mM) : Prop := RpT q.1 M' (zT (q.2.2.take q.2.1)) ∧ FrT q.1 M M'
abbrev t_X7_goThrough : mG → mT := mRv pre_X7_goThrough post_X7_goThrough
theorem mo_X7_goThrough : mMn t_X7_goThrough := mRv_mono
theorem rv_X7_goThrough : mHasR yX7_goThrough 2 t_X7_goThrough := by
  intro g as M P hT hl
  obtain ⟨q, ⟨h1, h2, -⟩, -⟩ := hT
  exact ⟨_, _, h2, is_X7 g _ rfl⟩
def k_X7_goThrough : List (Nat × mI) := [(0, .aload_n 1, 1, 1, 0, []),
  (1, .invokevirtual 303, 3, 0, 0, []),
  (4, .iconst 0, 1, 0, nI 0, []),
  (5, .istore_n 3, 1, 3, 0, []),
  (6, .iload_n 3, 1, 3, 0, []),
  (7, .iload_n 2, 1, 2, 0, []),
  (8, .if_icmp .ge 46, 3, 54, 0, []),
  (11, .aload_n 1, 1, 1, 0, []),
  (12, .aload_n 0, 1, 0, 0, []),
  (13, .getfield 19, 3, 0, 0, []),
  (16, .getfield 103, 3, 0, 0, []),
  (19, .iload_n 3, 1, 3, 0, []),
  (20, .invokestatic 107, 3, 0, 0, []),
  (23, .aload_n 0, 1, 0, 0, []),
  (24, .getfield 19, 3, 0, 0, []),
  (27, .getfield 111, 3, 0, 0, []),
  (30, .iload_n 3, 1, 3, 0, []),
  (31, .invokestatic 107, 3, 0, 0, []),
  (34, .aload_n 0, 1, 0, 0, []),
  (35, .getfield 19, 3, 0, 0, []),
  (38, .getfield 114, 3, 0, 0, []),
  (41, .iload_n 3, 1, 3, 0, []),
  (42, .invokestatic 107, 3, 0, 0, []),
  (45, .invokevirtual 92, 3, 0, 0, []),
  (48, .iinc 3 1, 3, 3, nI 1, []),
  (51, .goto (-45), 3, 6, 0, []),
  (54, .return_, 1, 0, 0, [])]
theorem kk_X7_goThrough : (k_X7_goThrough.all fun e => mChk cX7_goThrough e.1 e.2) = true := by decide +kernel
def l_X7_goThrough : List (Nat × Nat × (mG → mT)) := [(3 * 303, 0 + 1, t_X5_clear), (3 * 107 + 1, 2, t_X7_at), (3 * 92, 3 + 1, t_X5_perform)]
def f_X7_goThrough (g : mG) : mF := (mLk k_X7_goThrough, mLk fl_RX7, mLk (l_X7_goThrough.map fun e => (e.1, e.2.1, e.2.2 g)), mLk ([] : List (Nat × mV)), mLk ([] : List (Nat × mV)), none)
theorem m_X7_goThrough (g : mG) : mMono (f_X7_goThrough g) := mMonoL (g := g) (l := l_X7_goThrough) (List.forall_mem_cons.mpr ⟨mo_X5_clear, List.forall_mem_cons.mpr ⟨mo_X7_at, List.forall_mem_cons.mpr ⟨mo_X5_perform, fun _ h => absurd h List.not_mem_nil⟩⟩⟩) rfl

theorem v_gt_0_13 (g : mG) (M : mM) (P : mP) (n : Int32)
    (h : ∃ x1 : Nat × Nat, pre_X5_clear x1 [.inr (some 13)] M ∧ ∀ M2 : mM, post_X5_clear x1 [.inr (some 13)] M M2 → (mRun (mSx g) (f_X7_goThrough g) P (6, [some (.inr (some 0)), some (.inr (some 13)), some (.inl n), some (.inl (nI 0))], [], M2))) :
    mRun (mSx g) (f_X7_goThrough g) P (0, [some (.inr (some 0)), some (.inr (some 13)), some (.inl n), none], [], M) := mRun.vc (m_X7_goThrough g) [6] 5 h

theorem v_gt_6_13 (g : mG) (M : mM) (P : mP) (n i : Int32)
    (h : (n ≤ i → P none M) ∧ (¬ (n ≤ i) → ∃ x2 : Nat × aT × Nat × Int32 × Int32, pre_X5_perform x2 [.inr (some 13), .inl (aAt (M 4) 90 i), .inl (aAt (M 5) 90 i), .inl (aAt (M 6) 90 i)] M ∧ ∀ M3 : mM, post_X5_perform x2 [.inr (some 13), .inl (aAt (M 4) 90 i), .inl (aAt (M 5) 90 i), .inl (aAt (M 6) 90 i)] M M3 → (mRun (mSx g) (f_X7_goThrough g) P (6, [some (.inr (some 0)), some (.inr (some 13)), some (.inl n), some (.inl (i + (nI 1)))], [], M3)))) :
    mRun (mSx g) (f_X7_goThrough g) P (6, [some (.inr (some 0)), some (.inr (some 13)), some (.inl n), some (.inl i)], [], M) := mRun.vc (m_X7_goThrough g) [6] 23 h

theorem gt_loop_13 (g : mG) (P : mP) (M0 : mM) (l : List aE) (n : Nat) (hL : RpL 3 M0 l) (hI : lInv l) (hn : n ≤ l.length) (hP : ∀ M', RpT 13 M' (zT (l.take n)) ∧ FrT 13 M0 M' → P none M') :
    ∀ (j i : Nat) (M : mM), i + j = n → RpT 13 M (zT (l.take i)) → FrT 13 M0 M → mRun (mSx g) (f_X7_goThrough g) P (6, [some (.inr (some 0)), some (.inr (some 13)), some (.inl (nI n)), some (.inl (nI i))], [], M)
  | 0, i, M, h, hR, hF => by
    obtain rfl : i = n := by omega
    exact v_gt_6_13 g M P _ _ ⟨fun _ => hP M ⟨hR, hF⟩, fun z => absurd (nI_le (Nat.le_refl i) (by have := hI.1; omega)) z⟩
  | j + 1, i, M, h, hR, hF => by
    have hlen := hI.1
    refine v_gt_6_13 g M P _ _ ⟨fun z => absurd z (nI_ge (by omega) (by omega)), fun _ => ?_⟩
    obtain ⟨a1, a2, a3, -⟩ := hL.2 i (by omega)
    have f4 : M 4 = M0 4 := hF 4 (by omega)
    have f5 : M 5 = M0 5 := hF 5 (by omega)
    have f6 : M 6 = M0 6 := hF 6 (by omega)
    have q : ∀ (f : Nat → Int32), aAt f 90 (nI i) = f i := fun f => aAt_in (by omega) (by decide)
    rw [q, q, q, f4, f5, f6, show M0 4 i = _ from a1, show M0 5 i = _ from a2, show M0 6 i = _ from a3]
    refine ⟨(13, zT (l.take i), (eA l i).1.1, (eA l i).1.2.1, (eA l i).1.2.2), ⟨Or.inl rfl, rfl, hR, fit_ok (zT_inv (lInv_take i hI)) (zT_fit (by omega) hI)⟩, fun M2 k => ?_⟩
    rw [nI_add]
    have e := zT_next (l := l) (i := i) (by omega)
    refine gt_loop_13 g P M0 l n hL hI hn hP j (i + 1) M2 (by omega) ?_ (hF.trans k.2)
    rw [e]
    exact k.1
theorem gt_run_13 (g : mG) (P : mP) (M : mM) (l : List aE) (n : Nat) (hL : RpL 3 M l) (hI : lInv l) (hn : n ≤ l.length) (hP : ∀ M', RpT 13 M' (zT (l.take n)) ∧ FrT 13 M M' → P none M') :
    mRun (mSx g) (f_X7_goThrough g) P (0, [some (.inr (some 0)), some (.inr (some 13)), some (.inl (nI n)), none], [], M) := by
  refine v_gt_0_13 g M P _ ⟨(13, 0), ⟨Or.inl rfl, rfl⟩, fun M1 k => ?_⟩
  obtain ⟨k1, k2⟩ := k
  have hL1 : RpL 3 M1 l := RpL_fr hL (fun j hj => k2 _ (by omega))
  exact gt_loop_13 g P M1 l n hL1 hI hn (fun M' h => hP M' ⟨h.1, FrT.trans k2 h.2⟩) n 0 M1 (by omega) (by rw [List.take_zero]; exact k1) FrT.refl
theorem v_gt_0_26 (g : mG) (M : mM) (P : mP) (n : Int32)
    (h : ∃ x1 : Nat × Nat, pre_X5_clear x1 [.inr (some 26)] M ∧ ∀ M2 : mM, post_X5_clear x1 [.inr (some 26)] M M2 → (mRun (mSx g) (f_X7_goThrough g) P (6, [some (.inr (some 0)), some (.inr (some 26)), some (.inl n), some (.inl (nI 0))], [], M2))) :
    mRun (mSx g) (f_X7_goThrough g) P (0, [some (.inr (some 0)), some (.inr (some 26)), some (.inl n), none], [], M) := mRun.vc (m_X7_goThrough g) [6] 5 h

theorem v_gt_6_26 (g : mG) (M : mM) (P : mP) (n i : Int32)
    (h : (n ≤ i → P none M) ∧ (¬ (n ≤ i) → ∃ x2 : Nat × aT × Nat × Int32 × Int32, pre_X5_perform x2 [.inr (some 26), .inl (aAt (M 4) 90 i), .inl (aAt (M 5) 90 i), .inl (aAt (M 6) 90 i)] M ∧ ∀ M3 : mM, post_X5_perform x2 [.inr (some 26), .inl (aAt (M 4) 90 i), .inl (aAt (M 5) 90 i), .inl (aAt (M 6) 90 i)] M M3 → (mRun (mSx g) (f_X7_goThrough g) P (6, [some (.inr (some 0)), some (.inr (some 26)), some (.inl n), some (.inl (i + (nI 1)))], [], M3)))) :
    mRun (mSx g) (f_X7_goThrough g) P (6, [some (.inr (some 0)), some (.inr (some 26)), some (.inl n), some (.inl i)], [], M) := mRun.vc (m_X7_goThrough g) [6] 23 h

theorem gt_loop_26 (g : mG) (P : mP) (M0 : mM) (l : List aE) (n : Nat) (hL : RpL 3 M0 l) (hI : lInv l) (hn : n ≤ l.length) (hP : ∀ M', RpT 26 M' (zT (l.take n)) ∧ FrT 26 M0 M' → P none M') :
    ∀ (j i : Nat) (M : mM), i + j = n → RpT 26 M (zT (l.take i)) → FrT 26 M0 M → mRun (mSx g) (f_X7_goThrough g) P (6, [some (.inr (some 0)), some (.inr (some 26)), some (.inl (nI n)), some (.inl (nI i))], [], M)
  | 0, i, M, h, hR, hF => by
    obtain rfl : i = n := by omega
    exact v_gt_6_26 g M P _ _ ⟨fun _ => hP M ⟨hR, hF⟩, fun z => absurd (nI_le (Nat.le_refl i) (by have := hI.1; omega)) z⟩
  | j + 1, i, M, h, hR, hF => by
    have hlen := hI.1
    refine v_gt_6_26 g M P _ _ ⟨fun z => absurd z (nI_ge (by omega) (by omega)), fun _ => ?_⟩
    obtain ⟨a1, a2, a3, -⟩ := hL.2 i (by omega)
    have f4 : M 4 = M0 4 := hF 4 (by omega)
    have f5 : M 5 = M0 5 := hF 5 (by omega)
    have f6 : M 6 = M0 6 := hF 6 (by omega)
    have q : ∀ (f : Nat → Int32), aAt f 90 (nI i) = f i := fun f => aAt_in (by omega) (by decide)
    rw [q, q, q, f4, f5, f6, show M0 4 i = _ from a1, show M0 5 i = _ from a2, show M0 6 i = _ from a3]
    refine ⟨(26, zT (l.take i), (eA l i).1.1, (eA l i).1.2.1, (eA l i).1.2.2), ⟨Or.inr rfl, rfl, hR, fit_ok (zT_inv (lInv_take i hI)) (zT_fit (by omega) hI)⟩, fun M2 k => ?_⟩
    rw [nI_add]
    have e := zT_next (l := l) (i := i) (by omega)
    refine gt_loop_26 g P M0 l n hL hI hn hP j (i + 1) M2 (by omega) ?_ (hF.trans k.2)
    rw [e]
    exact k.1
theorem gt_run_26 (g : mG) (P : mP) (M : mM) (l : List aE) (n : Nat) (hL : RpL 3 M l) (hI : lInv l) (hn : n ≤ l.length) (hP : ∀ M', RpT 26 M' (zT (l.take n)) ∧ FrT 26 M M' → P none M') :
    mRun (mSx g) (f_X7_goThrough g) P (0, [some (.inr (some 0)), some (.inr (some 26)), some (.inl (nI n)), none], [], M) := by
  refine v_gt_0_26 g M P _ ⟨(26, 0), ⟨Or.inr rfl, rfl⟩, fun M1 k => ?_⟩
  obtain ⟨k1, k2⟩ := k
  have hL1 : RpL 3 M1 l := RpL_fr hL (fun j hj => k2 _ (by omega))
  exact gt_loop_26 g P M1 l n hL1 hI hn (fun M' h => hP M' ⟨h.1, FrT.trans k2 h.2⟩) n 0 M1 (by omega) (by rw [List.take_zero]; exact k1) FrT.refl
theorem run_X7_goThrough : mRunOf 4 t_X7_goThrough f_X7_goThrough := fun g as M P hT => by
  obtain ⟨⟨t, n, l⟩, ⟨h1, rfl, h3, h4, h5⟩, hP⟩ := hT
  refine ⟨Nat.le_of_ble_eq_true rfl, ?_⟩
  dsimp only at h1 h3 h4 h5
  rcases h1 with rfl | rfl
  · exact gt_run_13 g P M l n h3 h4 h5 hP
  · exact gt_run_26 g P M l n h3 h4 h5 hP
theorem ok_X7_goThrough : mOK yX7_goThrough cX7_goThrough 4 (none) 6 t_X7_goThrough := mOK.of f_X7_goThrough (by decide) (fun _ => rfl) (fun g => mCodeOK kk_X7_goThrough) (fun g => mFldL fk_RX7 rfl) (fun g idx v h => by cases h) (fun g idx v h => by cases h) (mCalL (l := l_X7_goThrough) (List.forall_mem_cons.mpr ⟨mSite.V (idx := 303) ok_X5_clear (by decide) (by decide) rv_X5_clear wc_X5_clear wk_RX7_303 wi_X5_clear wl_X5_clear wn_RX5 wd_X5_clear, List.forall_mem_cons.mpr ⟨mSite.S (idx := 107) ok_X7_at (by decide) (by decide) wc_X7_at wk_RX7_107 wt_X7_at wn_RX7 wd_X7_at, List.forall_mem_cons.mpr ⟨mSite.V (idx := 92) ok_X5_perform (by decide) (by decide) rv_X5_perform wc_X5_perform wk_RX7_92 wi_X5_perform wl_X5_perform wn_RX5 wd_X5_perform, fun _ h => absurd h List.not_mem_nil⟩⟩⟩) (fun _ => rfl)) run_X7_goThrough

def F_undo (z : aZ) (as : List Int32) : Int32 × aZ := match as with
  | [] => match z.2.1.length with
    | 0 => (-3, z)
    | n + 1 => (nI n, z.1, z.2.1.take n, z.2.2)
  | _ => (0, z)
theorem F_undo_0 {z : aZ} (h : z.2.1.length = 0) : F_undo z [] = (-3, z) := by
  unfold F_undo
  rw [h]
theorem F_undo_s {z : aZ} {n : Nat} (h : z.2.1.length = n + 1) : F_undo z [] = (nI n, z.1, z.2.1.take n, z.2.2) := by
  unfold F_undo
  rw [h]
theorem RpL_cut {c : Nat} {M M' : mM} {l : List aE} {n : Nat} (h : RpL c M l) (hn : n ≤ l.length) (e4 : M' c 4 = nI n) (e : ∀ k, 0 < k → k < 5 → M' (c + k) = M (c + k)) : RpL c M' (l.take n) := by
  have hl : (l.take n).length = n := by rw [List.length_take]; omega
  refine ⟨by rw [hl]; exact e4, fun i hi => ?_⟩
  rw [hl] at hi
  rw [eA_take hi, e 1 (by decide) (by decide), e 2 (by decide) (by decide), e 3 (by decide) (by decide), e 4 (by decide) (by decide)]
  exact h.2 i (by omega)
/-- a new log, and the real table by it -/
theorem RpC_log {M M' : mM} {z : aZ} {l : List aE} {im : Option (List aE)} (h : RpC M z) (hL : RpL 3 M' l) (hI : RpI M' im) (hT : RpT 13 M' (zT l)) (e : ∀ c, c = 1 ∨ c = 2 ∨ (38 < c ∧ c < 50) → M' c = M c) : RpC M' (z.1, l, im, z.2.2.2) := by
  obtain ⟨h1, -, -, -, h5, h6⟩ := h
  refine ⟨?_, hL, hI, hT, RpSh_fr h5 (fun c h1 h2 => e c (by omega)), ?_⟩
  · unfold RpTp
    rw [e 1 (by omega), e 2 (by omega)]
    exact h1
  · unfold RpLn
    rw [e 48 (by omega)]
    exact h6
theorem take_all (l : List aE) : l.take l.length = l := List.take_length
abbrev t_X7_undo : mG → mT := pub 0 F_undo
theorem mo_X7_undo : mMn t_X7_undo := pub_mono
theorem rv_X7_undo : mHasR yX7_undo 0 t_X7_undo := pub_recv rfl
def k_X7_undo : List (Nat × mI) := [(0, .aload_n 0, 1, 0, 0, []),
  (1, .getfield 19, 3, 0, 0, []),
  (4, .getfield 96, 3, 0, 0, []),
  (7, .ifCond .ne 6, 3, 13, 0, []),
  (10, .bipush (-3), 2, 0, -3, []),
  (12, .ireturn, 1, 0, 0, []),
  (13, .aload_n 0, 1, 0, 0, []),
  (14, .getfield 19, 3, 0, 0, []),
  (17, .dup, 1, 0, 0, []),
  (18, .getfield 96, 3, 0, 0, []),
  (21, .iconst 1, 1, 0, nI 1, []),
  (22, .isub, 1, 0, 0, []),
  (23, .putfield 96, 3, 0, 0, []),
  (26, .aload_n 0, 1, 0, 0, []),
  (27, .aload_n 0, 1, 0, 0, []),
  (28, .getfield 29, 3, 0, 0, []),
  (31, .aload_n 0, 1, 0, 0, []),
  (32, .getfield 19, 3, 0, 0, []),
  (35, .getfield 96, 3, 0, 0, []),
  (38, .invokevirtual 99, 3, 0, 0, []),
  (41, .aload_n 0, 1, 0, 0, []),
  (42, .getfield 19, 3, 0, 0, []),
  (45, .getfield 96, 3, 0, 0, []),
  (48, .ireturn, 1, 0, 0, [])]
theorem kk_X7_undo : (k_X7_undo.all fun e => mChk cX7_undo e.1 e.2) = true := by decide +kernel
def l_X7_undo : List (Nat × Nat × (mG → mT)) := [(3 * 99, 2 + 1, t_X7_goThrough)]
def f_X7_undo (g : mG) : mF := (mLk k_X7_undo, mLk fl_RX7, mLk (l_X7_undo.map fun e => (e.1, e.2.1, e.2.2 g)), mLk ([] : List (Nat × mV)), mLk ([] : List (Nat × mV)), some .int)
theorem m_X7_undo (g : mG) : mMono (f_X7_undo g) := mMonoL (g := g) (l := l_X7_undo) (List.forall_mem_cons.mpr ⟨mo_X7_goThrough, fun _ h => absurd h List.not_mem_nil⟩) rfl

theorem v_undo (g : mG) (M : mM) (P : mP) 
    (h : (¬ (M 3 4) = 0 → let M2 : mM := mW1 M 3 4 ((M 3 4) - (nI 1)); ∃ x3 : Nat × Nat × List aE, pre_X7_goThrough x3 [.inr (some 0), .inr (some 13), .inl ((M 3 4) - (nI 1))] M2 ∧ ∀ M4 : mM, post_X7_goThrough x3 [.inr (some 0), .inr (some 13), .inl ((M 3 4) - (nI 1))] M2 M4 → (P (some (.inl (M4 3 4))) M4)) ∧ (¬ (¬ (M 3 4) = 0) → P (some (.inl (-3))) M)) :
    mRun (mSx g) (f_X7_undo g) P (0, [some (.inr (some 0))], [], M) := mRun.vc (m_X7_undo g) [] 22 h

theorem run_X7_undo : mRunOf 1 t_X7_undo f_X7_undo := runC0 (by decide) (fun g M P z hR hI hP => by
  have hR' := hR
  obtain ⟨h1, h2, h3, h4, h5, h6⟩ := hR'
  have e4 := h2.1
  have hlen := hI.2.1.1
  refine v_undo g M P ?_
  rw [e4]
  cases hn : z.2.1.length with
  | zero =>
    rw [F_undo_0 hn] at hP
    exact ⟨fun h => absurd rfl h, fun _ => hP _ _ rfl hR FrC.refl⟩
  | succ n =>
    rw [F_undo_s hn] at hP
    refine ⟨fun _ => ?_, fun h => absurd (nI_ne0 (by omega) (by omega)) h⟩
    intro M1
    have em : nI (n + 1) - nI 1 = nI n := pk_sub (by omega)
    rw [em]
    have hf : ∀ c, c ≠ 3 → M1 c = M c := fun c hc => mW1_c hc
    have e41 : M1 3 4 = nI n := mW1_s.trans em
    have hL1 : RpL 3 M1 (z.2.1.take n) := RpL_cut h2 (by omega) e41 (fun k hk _ => hf _ (by omega))
    have hl : (z.2.1.take n).length = n := by rw [List.length_take]; omega
    refine ⟨(13, n, z.2.1.take n), ⟨Or.inl rfl, rfl, hL1, lInv_take n hI.2.1, by show n ≤ (z.2.1.take n).length; omega⟩, fun M2 k => ?_⟩
    obtain ⟨k1, k2⟩ := k
    dsimp only at k1 k2
    have hL2 : RpL 3 M2 (z.2.1.take n) := RpL_fr hL1 (fun k hk => k2 _ (by omega))
    have k1' : RpT 13 M2 (zT (z.2.1.take n)) := by
      have e : (z.2.1.take n).take n = z.2.1.take n := by rw [List.take_take, Nat.min_self]
      rw [e] at k1
      exact k1
    have hI2 : RpI M2 z.2.2.1 := by
      unfold RpI
      rw [k2 0 (by omega), hf 0 (by decide)]
      refine ⟨h3.1, fun l hl => RpL_fr (h3.2 l hl) (fun k hk => ?_)⟩
      rw [k2 _ (by omega), hf _ (by omega)]
    refine hP _ M2 ?_ (RpC_log hR hL2 hI2 k1' (fun c hc => by rw [k2 _ (by omega), hf _ (by omega)])) (fun c hc => by rw [k2 _ (by omega), hf _ (by omega)])
    have := hL2.1
    rw [hl] at this
    exact this)

theorem ok_X7_undo : mOK yX7_undo cX7_undo 1 (some .int) 7 t_X7_undo := mOK.of f_X7_undo (by decide) (fun _ => rfl) (fun g => mCodeOK kk_X7_undo) (fun g => mFldL fk_RX7 rfl) (fun g idx v h => by cases h) (fun g idx v h => by cases h) (mCalL (l := l_X7_undo) (List.forall_mem_cons.mpr ⟨mSite.V (idx := 99) ok_X7_goThrough (by decide) (by decide) rv_X7_goThrough wc_X7_goThrough wk_RX7_99 wi_X7_goThrough wl_X7_goThrough wn_RX7 wd_X7_goThrough, fun _ h => absurd h List.not_mem_nil⟩) (fun _ => rfl)) run_X7_undo

