/-! ===== THE REFERENCE: undo, replay, image, back ===== -/
/-- another log, and the table that it makes -/
theorem RpM.newlog {M M' : mM} {z : aZ} {l : List aE} (h : RpM M z) (h0 : M' 50 0 = nI l.length) (hL : RmL M' l.length l) (hT : RmT M' (zT l)) (hk : ∀ k, 30 < k → M' 50 k = M 50 k) (hc : ∀ c, 77 ≤ c → M' c = M c) : RpM M' (z.1, l, z.2.2) := by
  obtain ⟨⟨h1, h2⟩, -, ⟨h5, h6⟩, -, h7⟩ := h
  refine ⟨⟨(hk 33 (by decide)).trans h1, fun j hj => (congrFun (hc 77 (by decide)) j).trans (h2 j hj)⟩, ⟨h0, hL⟩, ⟨(hk 41 (by decide)).trans h5, fun l hl i hi => ?_⟩, hT, fun k hk => ?_⟩
  · rw [hc 79 (by decide), hc 80 (by decide), hc 81 (by decide), hc 82 (by decide)]
    exact h6 l hl i hi
  · rw [hc 83 (by decide), hc 84 (by decide), hc (86 + k) (by omega)]
    exact h7 k hk
abbrev t_X8_undo : mG → mT := pubM 0 F_undo
theorem mo_X8_undo : mMn t_X8_undo := pubM_mono
theorem rv_X8_undo : mHasR yX8_undo 0 t_X8_undo := pubM_recv rfl
def k_X8_undo : List (Nat × mI) := [(0, .aload_n 0, 1, 0, 0, []),
  (1, .getfield 311, 3, 0, 0, []),
  (4, .ifCond .ne 6, 3, 10, 0, []),
  (7, .bipush (-3), 2, 0, -3, []),
  (9, .ireturn, 1, 0, 0, []),
  (10, .aload_n 0, 1, 0, 0, []),
  (11, .dup, 1, 0, 0, []),
  (12, .getfield 311, 3, 0, 0, []),
  (15, .iconst 1, 1, 0, nI 1, []),
  (16, .isub, 1, 0, 0, []),
  (17, .putfield 311, 3, 0, 0, []),
  (20, .aload_n 0, 1, 0, 0, []),
  (21, .aload_n 0, 1, 0, 0, []),
  (22, .getfield 311, 3, 0, 0, []),
  (25, .invokevirtual 323, 3, 0, 0, []),
  (28, .aload_n 0, 1, 0, 0, []),
  (29, .getfield 311, 3, 0, 0, []),
  (32, .ireturn, 1, 0, 0, [])]
theorem kk_X8_undo : (k_X8_undo.all fun e => mChk cX8_undo e.1 e.2) = true := by decide +kernel
def l_X8_undo : List (Nat × Nat × (mG → mT)) := [(3 * 323, 1 + 1, t_X8_goesThrough)]
def f_X8_undo (g : mG) : mF := (mLk k_X8_undo, mLk fl_RX8, mLk (l_X8_undo.map fun e => (e.1, e.2.1, e.2.2 g)), mLk ([] : List (Nat × mV)), mLk ([] : List (Nat × mV)), some .int)
theorem m_X8_undo (g : mG) : mMono (f_X8_undo g) := mMonoL (g := g) (l := l_X8_undo) (List.forall_mem_cons.mpr ⟨mo_X8_goesThrough, fun _ h => absurd h List.not_mem_nil⟩) rfl

theorem w_undo (g : mG) (M : mM) (P : mP) 
    (h : (¬ (M 50 0) = 0 → let M2 : mM := mW1 M 50 0 ((M 50 0) - (nI 1)); ∃ x3 : Nat × List aE, pre_X8_goesThrough x3 [.inr (some 50), .inl ((M 50 0) - (nI 1))] M2 ∧ ∀ M4 : mM, post_X8_goesThrough x3 [.inr (some 50), .inl ((M 50 0) - (nI 1))] M2 M4 → (P (some (.inl (M4 50 0))) M4)) ∧ (¬ (¬ (M 50 0) = 0) → P (some (.inl (-3))) M)) :
    mRun (mSx g) (f_X8_undo g) P (0, [some (.inr (some 50))], [], M) := mRun.vc (m_X8_undo g) [] 16 h

theorem run_X8_undo : mRunOf 1 t_X8_undo f_X8_undo := runM0 (by decide) (fun g M P z hR hI hP => by
  obtain ⟨l0, l1⟩ := hR.2.1
  have hlen := hI.2.1.1
  refine w_undo g M P ?_
  rw [l0]
  cases hn : z.2.1.length with
  | zero =>
    rw [F_undo_0 hn] at hP
    exact ⟨fun w => absurd rfl w, fun _ => hP _ _ rfl hR FrM.refl⟩
  | succ n =>
    rw [F_undo_s hn] at hP
    rw [pk_sub (by omega), Nat.add_sub_cancel]
    refine ⟨fun _ => ?_, fun w => absurd (nI_ne0 (by omega) (by omega)) w⟩
    intro M2
    have hL2 : RmL M2 n z.2.1 := fun i hi => by
      show mW1 M 50 0 _ 51 i = _ ∧ mW1 M 50 0 _ 52 i = _ ∧ mW1 M 50 0 _ 53 i = _ ∧ mW1 M 50 0 _ 54 i = _
      rw [mW1_c (by decide), mW1_c (by decide), mW1_c (by decide), mW1_c (by decide)]
      exact l1 i (by omega)
    refine ⟨(n, z.2.1), ⟨rfl, hL2, hI.2.1, by show n ≤ z.2.1.length; omega⟩, fun M4 h4 => ?_⟩
    obtain ⟨k1, k2⟩ := h4
    dsimp only at k1
    have hl : (z.2.1.take n).length = n := by rw [List.length_take]; omega
    have e0 : M4 50 0 = nI n := (k2.2 0 (by decide)).trans mW1_s
    have hk2 : ∀ k, k ≠ 0 → M2 50 k = M 50 k := fun k hk => mW1_k hk
    have hc2 : ∀ c, c ≠ 50 → M2 c = M c := fun c hc => mW1_c hc
    rw [e0]
    refine hP _ _ rfl (hR.newlog (by rw [hl]; exact e0) (fun i hi => ?_) k1 (fun k hk => (k2.2 k (by omega)).trans (hk2 k (by omega))) (fun c hc => (k2.1 c (by omega)).trans (hc2 c (by omega)))) (fun c hc => (k2.1 c (by omega)).trans (hc2 c (by omega)))
    rw [hl] at hi
    rw [eA_take hi, k2.1 51 (by decide), k2.1 52 (by decide), k2.1 53 (by decide), k2.1 54 (by decide)]
    exact hL2 i hi)

theorem ok_X8_undo : mOK yX8_undo cX8_undo 1 (some .int) 7 t_X8_undo := mOK.of f_X8_undo (by decide) (fun _ => rfl) (fun g => mCodeOK kk_X8_undo) (fun g => mFldL fk_RX8 rfl) (fun g idx v h => by cases h) (fun g idx v h => by cases h) (mCalL (l := l_X8_undo) (List.forall_mem_cons.mpr ⟨mSite.V (idx := 323) ok_X8_goesThrough (by decide) (by decide) rv_X8_goesThrough wc_X8_goesThrough wk_RX8_323 wi_X8_goesThrough wl_X8_goesThrough wn_RX8 wd_X8_goesThrough, fun _ h => absurd h List.not_mem_nil⟩) (fun _ => rfl)) run_X8_undo

theorem ix_32 {y : Int32} {k : Nat} (h : ix y 32 = some k) : k < 32 ∧ y = nI k := by
  rcases ix_cs y (n := 32) (by decide) with ⟨_, e⟩ | ⟨j, hj, hy, e⟩
  · rw [e] at h
    cases h
  · rw [e] at h
    cases h
    exact ⟨hj, hy⟩
def d20 (y : Int32) : Bool := ((ix y 32).map fun k => decide (20 ≤ k)).getD false
theorem d20_t {y : Int32} : d20 y = true ↔ ∃ k, 20 ≤ k ∧ k < 32 ∧ ix y 32 = some k := by
  unfold d20
  cases h : ix y 32 with
  | none => exact ⟨fun w => (by cases w), fun ⟨k, _, _, w⟩ => (by cases w)⟩
  | some j =>
    refine ⟨fun w => ⟨j, of_decide_eq_true w, (ix_32 h).1, rfl⟩, fun ⟨k, a, _, w⟩ => ?_⟩
    cases w
    exact decide_eq_true a
theorem fIn_20 (y : Int32) : fIn y (nI 20) (nI 31) = mb (d20 y = true) := by
  unfold fIn
  refine mb_congr ?_
  rw [d20_t]
  rcases ix_cs y (n := 32) (by decide) with ⟨h, e⟩ | ⟨k, hk, rfl, e⟩
  · rw [e]
    refine ⟨fun w => ?_, fun ⟨k, _, _, w⟩ => (by cases w)⟩
    exfalso
    obtain ⟨w1, w2⟩ := w
    simp (disch := omega) only [fa_lt, fa_le, nI_toInt, Int32.toInt_zero] at h w1 w2
    omega
  · rw [e]
    refine ⟨fun w => ⟨k, (nI_leI (by decide) (by omega)).mp w.1, hk, rfl⟩, fun ⟨j, h1, h2, h3⟩ => ?_⟩
    cases h3
    exact ⟨nI_le h1 (by omega), nI_le (by omega) (by decide)⟩
theorem fIn_n {x : Int32} {n : Nat} (hn : n < 1000) : fIn x (nI 0) (nI n) = mb ((ix x (n + 1)).isSome = true) := fIn_ix (by omega)
abbrev t_X8_replay : mG → mT := pubM 2 F_replay
theorem mo_X8_replay : mMn t_X8_replay := pubM_mono
theorem rv_X8_replay : mHasR yX8_replay 2 t_X8_replay := pubM_recv rfl
def k_X8_replay : List (Nat × mI) := [(0, .iload_n 1, 1, 1, 0, []),
  (1, .iconst 0, 1, 0, nI 0, []),
  (2, .aload_n 0, 1, 0, 0, []),
  (3, .getfield 311, 3, 0, 0, []),
  (6, .invokestatic 214, 3, 0, 0, []),
  (9, .ifCond .eq 24, 3, 33, 0, []),
  (12, .iload_n 2, 1, 2, 0, []),
  (13, .iconst 0, 1, 0, nI 0, []),
  (14, .bipush 13, 2, 0, nI 13, []),
  (16, .invokestatic 214, 3, 0, 0, []),
  (19, .ifCond .ne 17, 3, 36, 0, []),
  (22, .iload_n 2, 1, 2, 0, []),
  (23, .bipush 20, 2, 0, nI 20, []),
  (25, .bipush 31, 2, 0, nI 31, []),
  (27, .invokestatic 214, 3, 0, 0, []),
  (30, .ifCond .ne 6, 3, 36, 0, []),
  (33, .bipush (-2), 2, 0, -2, []),
  (35, .ireturn, 1, 0, 0, []),
  (36, .aload_n 0, 1, 0, 0, []),
  (37, .iload_n 1, 1, 1, 0, []),
  (38, .invokevirtual 323, 3, 0, 0, []),
  (41, .iload_n 2, 1, 2, 0, []),
  (42, .bipush 20, 2, 0, nI 20, []),
  (44, .if_icmp .ge 11, 3, 55, 0, []),
  (47, .aload_n 0, 1, 0, 0, []),
  (48, .iload_n 2, 1, 2, 0, []),
  (49, .invokevirtual 350, 3, 0, 0, []),
  (52, .goto 21, 3, 73, 0, []),
  (55, .aload_n 0, 1, 0, 0, []),
  (56, .getfield 48, 3, 0, 0, []),
  (59, .iload_n 2, 1, 2, 0, []),
  (60, .bipush 20, 2, 0, nI 20, []),
  (62, .isub, 1, 0, 0, []),
  (63, .iconst 2, 1, 0, nI 2, []),
  (64, .irem, 1, 0, 0, []),
  (65, .aaload, 1, 1, 0, []),
  (66, .iload_n 2, 1, 2, 0, []),
  (67, .bipush 20, 2, 0, nI 20, []),
  (69, .isub, 1, 0, 0, []),
  (70, .iconst 2, 1, 0, nI 2, []),
  (71, .idiv, 1, 0, 0, []),
  (72, .iaload, 1, 1, 0, []),
  (73, .istore_n 3, 1, 3, 0, []),
  (74, .aload_n 0, 1, 0, 0, []),
  (75, .aload_n 0, 1, 0, 0, []),
  (76, .getfield 311, 3, 0, 0, []),
  (79, .invokevirtual 323, 3, 0, 0, []),
  (82, .iload_n 3, 1, 3, 0, []),
  (83, .ireturn, 1, 0, 0, [])]
theorem kk_X8_replay : (k_X8_replay.all fun e => mChk cX8_replay e.1 e.2) = true := by decide +kernel
def l_X8_replay : List (Nat × Nat × (mG → mT)) := [(3 * 214 + 1, 3, t_X8_in), (3 * 323, 1 + 1, t_X8_goesThrough), (3 * 350, 1 + 1, t_X8_answer)]
def f_X8_replay (g : mG) : mF := (mLk k_X8_replay, mLk fl_RX8, mLk (l_X8_replay.map fun e => (e.1, e.2.1, e.2.2 g)), mLk ([] : List (Nat × mV)), mLk ([] : List (Nat × mV)), some .int)
theorem m_X8_replay (g : mG) : mMono (f_X8_replay g) := mMonoL (g := g) (l := l_X8_replay) (List.forall_mem_cons.mpr ⟨mo_X8_in, List.forall_mem_cons.mpr ⟨mo_X8_goesThrough, List.forall_mem_cons.mpr ⟨mo_X8_answer, fun _ h => absurd h List.not_mem_nil⟩⟩⟩) rfl

theorem w_rp_0 (g : mG) (M : mM) (P : mP) (x y : Int32)
    (h : ((fIn x (nI 0) (M 50 0)) = 0 → P (some (.inl (-2))) M) ∧ (¬ ((fIn x (nI 0) (M 50 0)) = 0) → (¬ (fIn y (nI 0) (nI 13)) = 0 → mRun (mSx g) (f_X8_replay g) P (36, [some (.inr (some 50)), some (.inl x), some (.inl y), none], [], M)) ∧ (¬ (¬ (fIn y (nI 0) (nI 13)) = 0) → (¬ (fIn y (nI 20) (nI 31)) = 0 → mRun (mSx g) (f_X8_replay g) P (36, [some (.inr (some 50)), some (.inl x), some (.inl y), none], [], M)) ∧ (¬ (¬ (fIn y (nI 20) (nI 31)) = 0) → P (some (.inl (-2))) M)))) :
    mRun (mSx g) (f_X8_replay g) P (0, [some (.inr (some 50)), some (.inl x), some (.inl y), none], [], M) := mRun.vc (m_X8_replay g) [36] 18 h

theorem w_rp_36 (g : mG) (M : mM) (P : mP) (x y : Int32)
    (h : ∃ x1 : Nat × List aE, pre_X8_goesThrough x1 [.inr (some 50), .inl x] M ∧ ∀ M2 : mM, post_X8_goesThrough x1 [.inr (some 50), .inl x] M M2 → (((nI 20) ≤ y → ¬ (nI 2) = 0 ∧ (∃ (n4 k5 c6 : Nat) (rs7 : List (Option Nat)), (mSx g)[73]? = some (1, n4, rs7) ∧ ((y - (nI 20)) - (y - (nI 20)) / (nI 2) * (nI 2)) = nI k5 ∧ k5 < n4 ∧ n4 < 2 ^ 31 ∧ rs7[k5]? = some (some c6) ∧ (¬ (nI 2) = 0 ∧ (∃ (n8 : Nat) (rs9 : List (Option Nat)), (mSx g)[c6]? = some (0, n8, rs9) ∧ vp_in ((y - (nI 20)) / (nI 2)) n8 ∧ (mRun (mSx g) (f_X8_replay g) P (73, [some (.inr (some 50)), some (.inl x), some (.inl y), none], [.inl (M2 c6 (((y - (nI 20)) / (nI 2)).toNatClampNeg))], M2)))))) ∧ (¬ ((nI 20) ≤ y) → ∃ x10 : aT × Int32, pre_X8_answer x10 [.inr (some 50), .inl y] M2 ∧ ∀ (r12 : Int32) (M11 : mM), post_X8_answer x10 [.inr (some 50), .inl y] M2 r12 M11 → (mRun (mSx g) (f_X8_replay g) P (73, [some (.inr (some 50)), some (.inl x), some (.inl y), none], [.inl r12], M11))))) :
    mRun (mSx g) (f_X8_replay g) P (36, [some (.inr (some 50)), some (.inl x), some (.inl y), none], [], M) := mRun.vc (m_X8_replay g) [73] 21 h

theorem w_rp_73 (g : mG) (M : mM) (P : mP) (x y v : Int32)
    (h : ∃ x1 : Nat × List aE, pre_X8_goesThrough x1 [.inr (some 50), .inl (M 50 0)] M ∧ ∀ M2 : mM, post_X8_goesThrough x1 [.inr (some 50), .inl (M 50 0)] M M2 → (P (some (.inl v)) M2)) :
    mRun (mSx g) (f_X8_replay g) P (73, [some (.inr (some 50)), some (.inl x), some (.inl y), none], [.inl v], M) := mRun.vc (m_X8_replay g) [] 7 h

theorem run_X8_replay : mRunOf 4 t_X8_replay f_X8_replay := runM2 (by decide) (fun g M P z x y hR hI hP => by
  obtain ⟨l0, l1⟩ := hR.2.1
  have hlen := hI.2.1.1
  have hQ : ∀ v M', v = (F_replay z [x, y]).1 → RpM M' z → FrM M M' → P (some (.inl v)) M' := fun v M' e => hP v M' e
  refine w_rp_0 g M P x y ?_
  rw [l0, fIn_n (by omega), fI13, fIn_20]
  rcases ix_cs x (n := z.2.1.length + 1) (by omega) with ⟨hx, e1⟩ | ⟨n, hn, rfl, e1⟩
  · rw [show (F_replay z [x, y]).1 = -2 by simp only [F_replay, e1]] at hQ
    rw [e1, mb_no]
    exact ⟨fun _ => hQ _ _ rfl hR FrM.refl, fun h => absurd rfl h⟩
  rw [e1, mb_so]
  refine ⟨fun h => absurd h (by decide), fun _ => ?_⟩
  have k73 : ∀ (v : Int32) (M1 : mM), v = (F_replay z [nI n, y]).1 → FrR M M1 → mRun (mSx g) (f_X8_replay g) P (73, [some (.inr (some 50)), some (.inl (nI n)), some (.inl y), none], [.inl v], M1) := fun v M1 hv hF => by
    refine w_rp_73 g M1 P _ _ _ ?_
    rw [hF.2 0 (by decide), l0]
    refine ⟨(z.2.1.length, z.2.1), ⟨rfl, RmL_fr l1 (fun c a b => hF.1 c (by omega)), hI.2.1, Nat.le_refl _⟩, fun M2 h2 => ?_⟩
    obtain ⟨q1, q2⟩ := h2
    dsimp only at q1
    rw [List.take_length] at q1
    exact hQ _ _ hv (hR.R q1 (hF.trans q2)) (hF.trans q2).M
  have k36 : ∀ k, ix y 32 = some k → (k < 14 ∨ 20 ≤ k) → mRun (mSx g) (f_X8_replay g) P (36, [some (.inr (some 50)), some (.inl (nI n)), some (.inl y), none], [], M) := fun k e2 hk => by
    obtain ⟨hk32, hy⟩ := ix_32 e2
    rw [show (F_replay z [nI n, y]).1 = if k < 14 then tAns (zT (z.2.1.take n)) (nI k) else if k < 20 then -2 else (zT (z.2.1.take n)).2.2.2.2 (6 * ((k - 20) % 2) + (k - 20) / 2) by simp only [F_replay, e1, e2]] at k73
    rw [hy] at k73 ⊢
    refine w_rp_36 g M P _ _ ?_
    refine ⟨(n, z.2.1), ⟨rfl, fun i hi => l1 i (by omega), hI.2.1, by show n ≤ z.2.1.length; omega⟩, fun M4 h4 => ?_⟩
    obtain ⟨q1, q2⟩ := h4
    dsimp only at q1
    have hTi := zT_inv (lInv_take n hI.2.1)
    refine ⟨fun w => ?_, fun w => ?_⟩
    · have w' := (nI_leI (by decide) (by omega)).mp w
      rw [if_neg (by omega), if_neg (by omega)] at k73
      have hp2 : nI (k - 20) - nI (k - 20) / nI 2 * nI 2 = nI ((k - 20) % 2) := pk_rem (by omega) (by decide) (by decide)
      have hd2 : nI (k - 20) / nI 2 = nI ((k - 20) / 2) := pk_div (by omega) (by decide) (by decide)
      rw [pk_sub w', hp2, hd2, nI_clamp (by omega)]
      refine ⟨n2, rr_at (i := (k - 20) % 2) o_totals (by decide) (by omega) ⟨n2, ri_at o_totals (by omega) (show (k - 20) / 2 < 6 by omega) (by decide) ?_⟩⟩
      exact k73 _ M4 (q1.2.2.2.1.2.2 _ _ (by omega) (by omega)) q2
    · have w' : k < 14 := by
        rcases hk with h | h
        · exact h
        · exact absurd (nI_le h (by omega)) w
      rw [if_pos w'] at k73
      refine ⟨(zT (z.2.1.take n), nI k), ⟨rfl, q1, hTi.len, k, w', rfl⟩, fun r M13 hr => ?_⟩
      obtain ⟨rfl, rfl⟩ := hr
      exact k73 _ _ rfl q2
  rcases ix_cs y (n := 14) (by decide) with ⟨hy, e2⟩ | ⟨k, hk, rfl, e2⟩
  · rw [e2, mb_no]
    refine ⟨fun w => absurd rfl w, fun _ => ?_⟩
    by_cases h20 : d20 y = true
    · rw [mb_t h20]
      obtain ⟨k, a1, a2, a3⟩ := d20_t.mp h20
      exact ⟨fun _ => k36 k a3 (Or.inr a1), fun w => absurd (by decide) w⟩
    · rw [mb_f h20]
      refine ⟨fun w => absurd rfl w, fun _ => hQ _ _ ?_ hR FrM.refl⟩
      rcases ix_cs y (n := 32) (by decide) with ⟨_, e3⟩ | ⟨k, hk, rfl, e3⟩
      · simp only [F_replay, e1, e3]
      · simp only [F_replay, e1, e3]
        have h1 : ¬ k < 14 := fun w => by
          rw [ix_at w (by decide)] at e2
          cases e2
        have h2 : k < 20 := by
          rcases Nat.lt_or_ge k 20 with h | h
          · exact h
          · exact absurd (d20_t.mpr ⟨k, h, hk, e3⟩) h20
        rw [if_neg h1, if_pos h2]
  · rw [e2, mb_so]
    exact ⟨fun _ => k36 k (ix_at (by omega) (by decide)) (Or.inl hk), fun w => absurd (by decide) w⟩)

theorem ok_X8_replay : mOK yX8_replay cX8_replay 4 (some .int) 7 t_X8_replay := mOK.of f_X8_replay (by decide) (fun _ => rfl) (fun g => mCodeOK kk_X8_replay) (fun g => mFldL fk_RX8 rfl) (fun g idx v h => by cases h) (fun g idx v h => by cases h) (mCalL (l := l_X8_replay) (List.forall_mem_cons.mpr ⟨mSite.S (idx := 214) ok_X8_in (by decide) (by decide) wc_X8_in wk_RX8_214 wt_X8_in wn_RX8 wd_X8_in, List.forall_mem_cons.mpr ⟨mSite.V (idx := 323) ok_X8_goesThrough (by decide) (by decide) rv_X8_goesThrough wc_X8_goesThrough wk_RX8_323 wi_X8_goesThrough wl_X8_goesThrough wn_RX8 wd_X8_goesThrough, List.forall_mem_cons.mpr ⟨mSite.V (idx := 350) ok_X8_answer (by decide) (by decide) rv_X8_answer wc_X8_answer wk_RX8_350 wi_X8_answer wl_X8_answer wn_RX8 wd_X8_answer, fun _ h => absurd h List.not_mem_nil⟩⟩⟩) (fun _ => rfl)) run_X8_replay

def k_X8_logRow : List (Nat × mI) := [(0, .iload_n 1, 1, 1, 0, []),
  (1, .ifCond .ne 10, 3, 11, 0, []),
  (4, .aload_n 0, 1, 0, 0, []),
  (5, .getfield 9, 3, 0, 0, []),
  (8, .goto 31, 3, 39, 0, []),
  (11, .iload_n 1, 1, 1, 0, []),
  (12, .iconst 1, 1, 0, nI 1, []),
  (13, .if_icmp .ne 10, 3, 23, 0, []),
  (16, .aload_n 0, 1, 0, 0, []),
  (17, .getfield 13, 3, 0, 0, []),
  (20, .goto 19, 3, 39, 0, []),
  (23, .iload_n 1, 1, 1, 0, []),
  (24, .iconst 2, 1, 0, nI 2, []),
  (25, .if_icmp .ne 10, 3, 35, 0, []),
  (28, .aload_n 0, 1, 0, 0, []),
  (29, .getfield 16, 3, 0, 0, []),
  (32, .goto 7, 3, 39, 0, []),
  (35, .aload_n 0, 1, 0, 0, []),
  (36, .getfield 19, 3, 0, 0, []),
  (39, .areturn, 1, 0, 0, [])]
theorem kk_X8_logRow : (k_X8_logRow.all fun e => mChk cX8_logRow e.1 e.2) = true := by decide +kernel
def l_X8_logRow : List (Nat × Nat × (mG → mT)) := []
def f_X8_logRow (g : mG) : mF := (mLk k_X8_logRow, mLk fl_RX8, mLk (l_X8_logRow.map fun e => (e.1, e.2.1, e.2.2 g)), mLk ([] : List (Nat × mV)), mLk ([] : List (Nat × mV)), some (.array .int))
theorem m_X8_logRow (g : mG) : mMono (f_X8_logRow g) := mMonoL (g := g) (l := l_X8_logRow) (fun _ h => absurd h List.not_mem_nil) rfl
def t_X8_logRow : mG → mT := mIV pl_X8 f_X8_logRow 2 21
theorem mo_X8_logRow : mMn t_X8_logRow := mIV_mono m_X8_logRow
theorem rv_X8_logRow : mHasR yX8_logRow 1 t_X8_logRow := mIV_recv is_X8
theorem ok_X8_logRow : mOK yX8_logRow cX8_logRow 2 (some (.array .int)) 1 t_X8_logRow := mOK.of f_X8_logRow (by decide) (fun _ => rfl) (fun g => mCodeOK kk_X8_logRow) (fun g => mFldL fk_RX8 rfl) (fun g idx v h => by cases h) (fun g idx v h => by cases h) (mCalL (l := l_X8_logRow) (fun _ h => absurd h List.not_mem_nil) (fun _ => rfl)) (mIV_run m_X8_logRow)

abbrev t_X8_image : mG → mT := pubM 0 F_image
theorem mo_X8_image : mMn t_X8_image := pubM_mono
theorem rv_X8_image : mHasR yX8_image 0 t_X8_image := pubM_recv rfl
def k_X8_image : List (Nat × mI) := [(0, .aload_n 0, 1, 0, 0, []),
  (1, .aload_n 0, 1, 0, 0, []),
  (2, .getfield 311, 3, 0, 0, []),
  (5, .putfield 57, 3, 0, 0, []),
  (8, .iconst 0, 1, 0, nI 0, []),
  (9, .istore_n 1, 1, 1, 0, []),
  (10, .iload_n 1, 1, 1, 0, []),
  (11, .iconst 4, 1, 0, nI 4, []),
  (12, .if_icmp .ge 27, 3, 39, 0, []),
  (15, .aload_n 0, 1, 0, 0, []),
  (16, .iload_n 1, 1, 1, 0, []),
  (17, .invokevirtual 373, 3, 0, 0, []),
  (20, .iconst 0, 1, 0, nI 0, []),
  (21, .aload_n 0, 1, 0, 0, []),
  (22, .getfield 61, 3, 0, 0, []),
  (25, .iload_n 1, 1, 1, 0, []),
  (26, .aaload, 1, 1, 0, []),
  (27, .iconst 0, 1, 0, nI 0, []),
  (28, .bipush 90, 2, 0, nI 90, []),
  (30, .invokestatic 377, 3, 0, 0, []),
  (33, .iinc 1 1, 3, 1, nI 1, []),
  (36, .goto (-26), 3, 10, 0, []),
  (39, .aload_n 0, 1, 0, 0, []),
  (40, .getfield 311, 3, 0, 0, []),
  (43, .ireturn, 1, 0, 0, [])]
theorem kk_X8_image : (k_X8_image.all fun e => mChk cX8_image e.1 e.2) = true := by decide +kernel
def l_X8_image : List (Nat × Nat × (mG → mT)) := [(3 * 373, 1 + 1, t_X8_logRow), (3 * 377 + 1, 5, tCopy)]
def f_X8_image (g : mG) : mF := (mLk k_X8_image, mLk fl_RX8, mLk (l_X8_image.map fun e => (e.1, e.2.1, e.2.2 g)), mLk ([] : List (Nat × mV)), mLk ([] : List (Nat × mV)), some .int)
theorem m_X8_image (g : mG) : mMono (f_X8_image g) := mMonoL (g := g) (l := l_X8_image) (List.forall_mem_cons.mpr ⟨mo_X8_logRow, List.forall_mem_cons.mpr ⟨tCopy_mono, fun _ h => absurd h List.not_mem_nil⟩⟩) rfl

theorem w_im_0 (g : mG) (M : mM) (P : mP) 
    (h : let M1 : mM := mW1 M 50 41 (M 50 0); mRun (mSx g) (f_X8_image g) P (10, [some (.inr (some 50)), some (.inl (nI 0))], [], M1)) :
    mRun (mSx g) (f_X8_image g) P (0, [some (.inr (some 50)), none], [], M) := mRun.vc (m_X8_image g) [10] 7 h

theorem w_im_10 (g : mG) (M : mM) (P : mP) (i : Int32)
    (h : ((nI 4) ≤ i → P (some (.inl (M 50 0))) M) ∧ (¬ ((nI 4) ≤ i) → (¬ i = 0 → (¬ i = (nI 1) → (¬ i = (nI 2) → ∃ (n5 k6 c7 : Nat) (rs8 : List (Option Nat)), (mSx g)[78]? = some (1, n5, rs8) ∧ i = nI k6 ∧ k6 < n5 ∧ n5 < 2 ^ 31 ∧ rs8[k6]? = some (some c7) ∧ (∃ n9 n10 : Nat, (∃ ra, (mSx g)[54]? = some (0, n9, ra)) ∧ (∃ rb, (mSx g)[c7]? = some (0, n10, rb)) ∧ ¬ (nI 0) < 0 ∧ ¬ (nI 0) < 0 ∧ ¬ (nI 90) < 0 ∧ (nI 0).toNatClampNeg + (nI 90).toNatClampNeg ≤ n9 ∧ (nI 0).toNatClampNeg + (nI 90).toNatClampNeg ≤ n10 ∧ (let M13 : mM := mUp M c7 (va_cpy (M 54) (M c7) (nI 0).toNatClampNeg (nI 0).toNatClampNeg (nI 90).toNatClampNeg); mRun (mSx g) (f_X8_image g) P (10, [some (.inr (some 50)), some (.inl (i + (nI 1)))], [], M13)))) ∧ (¬ (¬ i = (nI 2)) → ∃ (n14 k15 c16 : Nat) (rs17 : List (Option Nat)), (mSx g)[78]? = some (1, n14, rs17) ∧ i = nI k15 ∧ k15 < n14 ∧ n14 < 2 ^ 31 ∧ rs17[k15]? = some (some c16) ∧ (∃ n18 n19 : Nat, (∃ ra, (mSx g)[53]? = some (0, n18, ra)) ∧ (∃ rb, (mSx g)[c16]? = some (0, n19, rb)) ∧ ¬ (nI 0) < 0 ∧ ¬ (nI 0) < 0 ∧ ¬ (nI 90) < 0 ∧ (nI 0).toNatClampNeg + (nI 90).toNatClampNeg ≤ n18 ∧ (nI 0).toNatClampNeg + (nI 90).toNatClampNeg ≤ n19 ∧ (let M22 : mM := mUp M c16 (va_cpy (M 53) (M c16) (nI 0).toNatClampNeg (nI 0).toNatClampNeg (nI 90).toNatClampNeg); mRun (mSx g) (f_X8_image g) P (10, [some (.inr (some 50)), some (.inl (i + (nI 1)))], [], M22))))) ∧ (¬ (¬ i = (nI 1)) → ∃ (n23 k24 c25 : Nat) (rs26 : List (Option Nat)), (mSx g)[78]? = some (1, n23, rs26) ∧ i = nI k24 ∧ k24 < n23 ∧ n23 < 2 ^ 31 ∧ rs26[k24]? = some (some c25) ∧ (∃ n27 n28 : Nat, (∃ ra, (mSx g)[52]? = some (0, n27, ra)) ∧ (∃ rb, (mSx g)[c25]? = some (0, n28, rb)) ∧ ¬ (nI 0) < 0 ∧ ¬ (nI 0) < 0 ∧ ¬ (nI 90) < 0 ∧ (nI 0).toNatClampNeg + (nI 90).toNatClampNeg ≤ n27 ∧ (nI 0).toNatClampNeg + (nI 90).toNatClampNeg ≤ n28 ∧ (let M31 : mM := mUp M c25 (va_cpy (M 52) (M c25) (nI 0).toNatClampNeg (nI 0).toNatClampNeg (nI 90).toNatClampNeg); mRun (mSx g) (f_X8_image g) P (10, [some (.inr (some 50)), some (.inl (i + (nI 1)))], [], M31))))) ∧ (¬ (¬ i = 0) → ∃ (n32 k33 c34 : Nat) (rs35 : List (Option Nat)), (mSx g)[78]? = some (1, n32, rs35) ∧ i = nI k33 ∧ k33 < n32 ∧ n32 < 2 ^ 31 ∧ rs35[k33]? = some (some c34) ∧ (∃ n36 n37 : Nat, (∃ ra, (mSx g)[51]? = some (0, n36, ra)) ∧ (∃ rb, (mSx g)[c34]? = some (0, n37, rb)) ∧ ¬ (nI 0) < 0 ∧ ¬ (nI 0) < 0 ∧ ¬ (nI 90) < 0 ∧ (nI 0).toNatClampNeg + (nI 90).toNatClampNeg ≤ n36 ∧ (nI 0).toNatClampNeg + (nI 90).toNatClampNeg ≤ n37 ∧ (let M40 : mM := mUp M c34 (va_cpy (M 51) (M c34) (nI 0).toNatClampNeg (nI 0).toNatClampNeg (nI 90).toNatClampNeg); mRun (mSx g) (f_X8_image g) P (10, [some (.inr (some 50)), some (.inl (i + (nI 1)))], [], M40)))))) :
    mRun (mSx g) (f_X8_image g) P (10, [some (.inr (some 50)), some (.inl i)], [], M) := mRun.vc (m_X8_image g) [10] 17 h

theorem RmT_fr {M M' : mM} {T : aT} (h : RmT M T) (hk : ∀ k, k ≤ 30 → M' 50 k = M 50 k) (hc : ∀ c, 55 ≤ c → c ≤ 76 → M' c = M c) (hl : T.2.2.1.2.2.2.2.length ≤ 32) : RmT M' T := by
  obtain ⟨⟨h1, h2, h3, h4, h5⟩, hB, hP, hS, hL⟩ := h
  exact ⟨⟨(hk 5 (by decide)).trans h1, (hk 6 (by decide)).trans h2, (hk 7 (by decide)).trans h3, (hk 14 (by decide)).trans h4, (hk 15 (by decide)).trans h5⟩, RmB_fr hB (fun k a b => hk k (by omega)) (fun c hc' => hc c (by omega) (by omega)), RmP_fr hP (hk 19 (by decide)) (fun c a b => hc c (by omega) (by omega)) hl, RmSc_fr hS (fun k a b => hk k (by omega)) (fun c hc' => hc c (by omega) (by omega)), fun k => (congrFun (hc 60 (by decide) (by decide)) _).trans (hL k)⟩
theorem run_X8_image : mRunOf 2 t_X8_image f_X8_image := runM0 (by decide) (fun g M P z hR hI hP => by
  obtain ⟨l0, l1⟩ := hR.2.1
  have hlen := hI.2.1.1
  refine w_im_0 g M P ?_
  intro M0
  have h50 : ∀ k, k ≠ 41 → M0 50 k = M 50 k := fun k hk => mW1_k hk
  have h41 : M0 50 41 = M 50 0 := mW1_s
  have hc0 : ∀ c, c ≠ 50 → M0 c = M c := fun c hc => mW1_c hc
  clear_value M0
  refine w_im_10 g M0 P (nI 0) ⟨fun w => absurd w (by decide), fun _ => ⟨fun w => absurd rfl w, fun _ => rr_at (i := 0) o_image (by decide) (by decide) ⟨90, 90, ⟨_, mSx_at rfl⟩, ⟨_, mSx_at rfl⟩, by decide, by decide, by decide, by decide, by decide, ?_⟩⟩⟩
  intro N0
  have g0 : N0 79 = va_cpy (M0 51) (M0 79) 0 0 90 := mUp_at
  have f0 : ∀ c, c ≠ 79 → N0 c = M0 c := fun c hc => mUp_ne hc
  clear_value N0
  refine w_im_10 g N0 P (nI 1) ⟨fun w => absurd w (by decide), fun _ => ⟨fun _ => ⟨fun w => absurd rfl w, fun _ => rr_at (i := 1) o_image (by decide) (by decide) ⟨90, 90, ⟨_, mSx_at rfl⟩, ⟨_, mSx_at rfl⟩, by decide, by decide, by decide, by decide, by decide, ?_⟩⟩, fun w => absurd (by decide) w⟩⟩
  intro N1
  have g1 : N1 80 = va_cpy (N0 52) (N0 80) 0 0 90 := mUp_at
  have f1 : ∀ c, c ≠ 80 → N1 c = N0 c := fun c hc => mUp_ne hc
  clear_value N1
  refine w_im_10 g N1 P (nI 2) ⟨fun w => absurd w (by decide), fun _ => ⟨fun _ => ⟨fun _ => ⟨fun w => absurd rfl w, fun _ => rr_at (i := 2) o_image (by decide) (by decide) ⟨90, 90, ⟨_, mSx_at rfl⟩, ⟨_, mSx_at rfl⟩, by decide, by decide, by decide, by decide, by decide, ?_⟩⟩, fun w => absurd (by decide) w⟩, fun w => absurd (by decide) w⟩⟩
  intro N2
  have g2 : N2 81 = va_cpy (N1 53) (N1 81) 0 0 90 := mUp_at
  have f2 : ∀ c, c ≠ 81 → N2 c = N1 c := fun c hc => mUp_ne hc
  clear_value N2
  refine w_im_10 g N2 P (nI 3) ⟨fun w => absurd w (by decide), fun _ => ⟨fun _ => ⟨fun _ => ⟨fun _ => rr_at (i := 3) o_image (by decide) (by decide) ⟨90, 90, ⟨_, mSx_at rfl⟩, ⟨_, mSx_at rfl⟩, by decide, by decide, by decide, by decide, by decide, ?_⟩, fun w => absurd (by decide) w⟩, fun w => absurd (by decide) w⟩, fun w => absurd (by decide) w⟩⟩
  intro N3
  have g3 : N3 82 = va_cpy (N2 54) (N2 82) 0 0 90 := mUp_at
  have f3 : ∀ c, c ≠ 82 → N3 c = N2 c := fun c hc => mUp_ne hc
  clear_value N3
  refine w_im_10 g N3 P (nI 4) ⟨fun _ => ?_, fun w => absurd (by decide) w⟩
  have fr : ∀ c, ¬ (79 ≤ c ∧ c ≤ 82) → N3 c = M0 c := fun c hc => by rw [f3 c (by omega), f2 c (by omega), f1 c (by omega), f0 c (by omega)]
  have i0 : ∀ i, i < 90 → N3 79 i = M 51 i := fun i hi => by rw [f3 79 (by decide), f2 79 (by decide), f1 79 (by decide), g0, cpy_0 hi, hc0 51 (by decide)]
  have i1 : ∀ i, i < 90 → N3 80 i = M 52 i := fun i hi => by rw [f3 80 (by decide), f2 80 (by decide), g1, cpy_0 hi, f0 52 (by decide), hc0 52 (by decide)]
  have i2 : ∀ i, i < 90 → N3 81 i = M 53 i := fun i hi => by rw [f3 81 (by decide), g2, cpy_0 hi, f1 53 (by decide), f0 53 (by decide), hc0 53 (by decide)]
  have i3 : ∀ i, i < 90 → N3 82 i = M 54 i := fun i hi => by rw [g3, cpy_0 hi, f2 54 (by decide), f1 54 (by decide), f0 54 (by decide), hc0 54 (by decide)]
  have k50 : ∀ k, k ≠ 41 → N3 50 k = M 50 k := fun k hk => (congrFun (fr 50 (by decide)) k).trans (h50 k hk)
  have kc : ∀ c, c ≠ 50 → ¬ (79 ≤ c ∧ c ≤ 82) → N3 c = M c := fun c a b => (fr c b).trans (hc0 c a)
  obtain ⟨⟨t1, t2⟩, -, ⟨u5, u6⟩, hT, hS⟩ := hR
  rw [k50 0 (by decide)]
  refine hP _ _ l0 ⟨⟨(k50 33 (by decide)).trans t1, fun j hj => (congrFun (kc 77 (by decide) (by decide)) j).trans (t2 j hj)⟩, ⟨(k50 0 (by decide)).trans l0, RmL_fr l1 (fun c a b => kc c (by omega) (by omega))⟩, ⟨?_, fun l hl i hi => ?_⟩, ?_, fun k hk => ?_⟩ (fun c hc => kc c (by omega) (by omega))
  · rw [congrFun (fr 50 (by decide)) 41, h41, l0]
    rfl
  · cases hl
    have := l1 i hi
    rw [i0 i (by omega), i1 i (by omega), i2 i (by omega), i3 i (by omega)]
    exact this
  · exact RmT_fr hT (fun k hk => k50 k (by omega)) (fun c a b => kc c (by omega) (by omega)) hI.T.len
  · rw [kc 83 (by decide) (by decide), kc 84 (by decide) (by decide), kc (86 + k) (by omega) (by omega)]
    exact hS k hk)

theorem ok_X8_image : mOK yX8_image cX8_image 2 (some .int) 2 t_X8_image := mOK.of f_X8_image (by decide) (fun _ => rfl) (fun g => mCodeOK kk_X8_image) (fun g => mFldL fk_RX8 rfl) (fun g idx v h => by cases h) (fun g idx v h => by cases h) (mCalL (l := l_X8_image) (List.forall_mem_cons.mpr ⟨mSite.V (idx := 373) ok_X8_logRow (by decide) (by decide) rv_X8_logRow wc_X8_logRow wk_RX8_373 wi_X8_logRow wl_X8_logRow wn_RX8 wd_X8_logRow, List.forall_mem_cons.mpr ⟨mSite.copy (idx := 377) (by decide) (mIn 1501 (by decide +kernel) rfl) wnat_copy wst_copy wn_RJ10, fun _ h => absurd h List.not_mem_nil⟩⟩) (fun _ => rfl)) run_X8_image

abbrev t_X8_back : mG → mT := pubM 0 F_back
theorem mo_X8_back : mMn t_X8_back := pubM_mono
theorem rv_X8_back : mHasR yX8_back 0 t_X8_back := pubM_recv rfl
def k_X8_back : List (Nat × mI) := [(0, .aload_n 0, 1, 0, 0, []),
  (1, .getfield 57, 3, 0, 0, []),
  (4, .iconst (-1), 1, 0, -1, []),
  (5, .if_icmp .ne 6, 3, 11, 0, []),
  (8, .bipush (-3), 2, 0, -3, []),
  (10, .ireturn, 1, 0, 0, []),
  (11, .aload_n 0, 1, 0, 0, []),
  (12, .aload_n 0, 1, 0, 0, []),
  (13, .getfield 57, 3, 0, 0, []),
  (16, .putfield 311, 3, 0, 0, []),
  (19, .iconst 0, 1, 0, nI 0, []),
  (20, .istore_n 1, 1, 1, 0, []),
  (21, .iload_n 1, 1, 1, 0, []),
  (22, .iconst 4, 1, 0, nI 4, []),
  (23, .if_icmp .ge 27, 3, 50, 0, []),
  (26, .aload_n 0, 1, 0, 0, []),
  (27, .getfield 61, 3, 0, 0, []),
  (30, .iload_n 1, 1, 1, 0, []),
  (31, .aaload, 1, 1, 0, []),
  (32, .iconst 0, 1, 0, nI 0, []),
  (33, .aload_n 0, 1, 0, 0, []),
  (34, .iload_n 1, 1, 1, 0, []),
  (35, .invokevirtual 373, 3, 0, 0, []),
  (38, .iconst 0, 1, 0, nI 0, []),
  (39, .bipush 90, 2, 0, nI 90, []),
  (41, .invokestatic 377, 3, 0, 0, []),
  (44, .iinc 1 1, 3, 1, nI 1, []),
  (47, .goto (-26), 3, 21, 0, []),
  (50, .aload_n 0, 1, 0, 0, []),
  (51, .aload_n 0, 1, 0, 0, []),
  (52, .getfield 311, 3, 0, 0, []),
  (55, .invokevirtual 323, 3, 0, 0, []),
  (58, .aload_n 0, 1, 0, 0, []),
  (59, .getfield 311, 3, 0, 0, []),
  (62, .ireturn, 1, 0, 0, [])]
theorem kk_X8_back : (k_X8_back.all fun e => mChk cX8_back e.1 e.2) = true := by decide +kernel
def l_X8_back : List (Nat × Nat × (mG → mT)) := [(3 * 373, 1 + 1, t_X8_logRow), (3 * 377 + 1, 5, tCopy), (3 * 323, 1 + 1, t_X8_goesThrough)]
def f_X8_back (g : mG) : mF := (mLk k_X8_back, mLk fl_RX8, mLk (l_X8_back.map fun e => (e.1, e.2.1, e.2.2 g)), mLk ([] : List (Nat × mV)), mLk ([] : List (Nat × mV)), some .int)
theorem m_X8_back (g : mG) : mMono (f_X8_back g) := mMonoL (g := g) (l := l_X8_back) (List.forall_mem_cons.mpr ⟨mo_X8_logRow, List.forall_mem_cons.mpr ⟨tCopy_mono, List.forall_mem_cons.mpr ⟨mo_X8_goesThrough, fun _ h => absurd h List.not_mem_nil⟩⟩⟩) rfl

theorem w_ba_0 (g : mG) (M : mM) (P : mP) 
    (h : (¬ (M 50 41) = (-1) → let M2 : mM := mW1 M 50 0 (M 50 41); mRun (mSx g) (f_X8_back g) P (21, [some (.inr (some 50)), some (.inl (nI 0))], [], M2)) ∧ (¬ (¬ (M 50 41) = (-1)) → P (some (.inl (-3))) M)) :
    mRun (mSx g) (f_X8_back g) P (0, [some (.inr (some 50)), none], [], M) := mRun.vc (m_X8_back g) [21] 11 h

theorem w_ba_21 (g : mG) (M : mM) (P : mP) (i : Int32)
    (h : ((nI 4) ≤ i → ∃ x2 : Nat × List aE, pre_X8_goesThrough x2 [.inr (some 50), .inl (M 50 0)] M ∧ ∀ M3 : mM, post_X8_goesThrough x2 [.inr (some 50), .inl (M 50 0)] M M3 → (P (some (.inl (M3 50 0))) M3)) ∧ (¬ ((nI 4) ≤ i) → ∃ (n4 k5 c6 : Nat) (rs7 : List (Option Nat)), (mSx g)[78]? = some (1, n4, rs7) ∧ i = nI k5 ∧ k5 < n4 ∧ n4 < 2 ^ 31 ∧ rs7[k5]? = some (some c6) ∧ ((¬ i = 0 → (¬ i = (nI 1) → (¬ i = (nI 2) → ∃ n11 n12 : Nat, (∃ ra, (mSx g)[c6]? = some (0, n11, ra)) ∧ (∃ rb, (mSx g)[54]? = some (0, n12, rb)) ∧ ¬ (nI 0) < 0 ∧ ¬ (nI 0) < 0 ∧ ¬ (nI 90) < 0 ∧ (nI 0).toNatClampNeg + (nI 90).toNatClampNeg ≤ n11 ∧ (nI 0).toNatClampNeg + (nI 90).toNatClampNeg ≤ n12 ∧ (let M15 : mM := mUp M 54 (va_cpy (M c6) (M 54) (nI 0).toNatClampNeg (nI 0).toNatClampNeg (nI 90).toNatClampNeg); mRun (mSx g) (f_X8_back g) P (21, [some (.inr (some 50)), some (.inl (i + (nI 1)))], [], M15))) ∧ (¬ (¬ i = (nI 2)) → ∃ n16 n17 : Nat, (∃ ra, (mSx g)[c6]? = some (0, n16, ra)) ∧ (∃ rb, (mSx g)[53]? = some (0, n17, rb)) ∧ ¬ (nI 0) < 0 ∧ ¬ (nI 0) < 0 ∧ ¬ (nI 90) < 0 ∧ (nI 0).toNatClampNeg + (nI 90).toNatClampNeg ≤ n16 ∧ (nI 0).toNatClampNeg + (nI 90).toNatClampNeg ≤ n17 ∧ (let M20 : mM := mUp M 53 (va_cpy (M c6) (M 53) (nI 0).toNatClampNeg (nI 0).toNatClampNeg (nI 90).toNatClampNeg); mRun (mSx g) (f_X8_back g) P (21, [some (.inr (some 50)), some (.inl (i + (nI 1)))], [], M20)))) ∧ (¬ (¬ i = (nI 1)) → ∃ n21 n22 : Nat, (∃ ra, (mSx g)[c6]? = some (0, n21, ra)) ∧ (∃ rb, (mSx g)[52]? = some (0, n22, rb)) ∧ ¬ (nI 0) < 0 ∧ ¬ (nI 0) < 0 ∧ ¬ (nI 90) < 0 ∧ (nI 0).toNatClampNeg + (nI 90).toNatClampNeg ≤ n21 ∧ (nI 0).toNatClampNeg + (nI 90).toNatClampNeg ≤ n22 ∧ (let M25 : mM := mUp M 52 (va_cpy (M c6) (M 52) (nI 0).toNatClampNeg (nI 0).toNatClampNeg (nI 90).toNatClampNeg); mRun (mSx g) (f_X8_back g) P (21, [some (.inr (some 50)), some (.inl (i + (nI 1)))], [], M25)))) ∧ (¬ (¬ i = 0) → ∃ n26 n27 : Nat, (∃ ra, (mSx g)[c6]? = some (0, n26, ra)) ∧ (∃ rb, (mSx g)[51]? = some (0, n27, rb)) ∧ ¬ (nI 0) < 0 ∧ ¬ (nI 0) < 0 ∧ ¬ (nI 90) < 0 ∧ (nI 0).toNatClampNeg + (nI 90).toNatClampNeg ≤ n26 ∧ (nI 0).toNatClampNeg + (nI 90).toNatClampNeg ≤ n27 ∧ (let M30 : mM := mUp M 51 (va_cpy (M c6) (M 51) (nI 0).toNatClampNeg (nI 0).toNatClampNeg (nI 90).toNatClampNeg); mRun (mSx g) (f_X8_back g) P (21, [some (.inr (some 50)), some (.inl (i + (nI 1)))], [], M30)))))) :
    mRun (mSx g) (f_X8_back g) P (21, [some (.inr (some 50)), some (.inl i)], [], M) := mRun.vc (m_X8_back g) [21] 17 h

theorem run_X8_back : mRunOf 2 t_X8_back f_X8_back := runM0 (by decide) (fun g M P z hR hI hP => by
  obtain ⟨u5, u6⟩ := hR.2.2.1
  refine w_ba_0 g M P ?_
  rw [u5]
  cases hz : z.2.2.1 with
  | none =>
    rw [F_back_0 hz] at hP
    exact ⟨fun w => absurd rfl w, fun _ => hP _ _ rfl hR FrM.refl⟩
  | some l =>
  rw [F_back_s hz] at hP
  have hlI := hI.2.2.1 l hz
  have hlen := hlI.1
  have hl := u6 l hz
  refine ⟨fun _ => ?_, fun w => absurd (show ¬ nI l.length = -1 from ne_m1 (by omega)) w⟩
  intro M0
  have h50 : ∀ k, k ≠ 0 → M0 50 k = M 50 k := fun k hk => mW1_k hk
  have h0 : M0 50 0 = nI l.length := mW1_s
  have hc0 : ∀ c, c ≠ 50 → M0 c = M c := fun c hc => mW1_c hc
  clear_value M0
  refine w_ba_21 g M0 P (nI 0) ⟨fun w => absurd w (by decide), fun _ => rr_at (i := 0) o_image (by decide) (by decide) ⟨fun w => absurd rfl w, fun _ => ⟨90, 90, ⟨_, mSx_at rfl⟩, ⟨_, mSx_at rfl⟩, by decide, by decide, by decide, by decide, by decide, ?_⟩⟩⟩
  intro N0
  have g0 : N0 51 = va_cpy (M0 79) (M0 51) 0 0 90 := mUp_at
  have f0 : ∀ c, c ≠ 51 → N0 c = M0 c := fun c hc => mUp_ne hc
  clear_value N0
  refine w_ba_21 g N0 P (nI 1) ⟨fun w => absurd w (by decide), fun _ => rr_at (i := 1) o_image (by decide) (by decide) ⟨fun _ => ⟨fun w => absurd rfl w, fun _ => ⟨90, 90, ⟨_, mSx_at rfl⟩, ⟨_, mSx_at rfl⟩, by decide, by decide, by decide, by decide, by decide, ?_⟩⟩, fun w => absurd (by decide) w⟩⟩
  intro N1
  have g1 : N1 52 = va_cpy (N0 80) (N0 52) 0 0 90 := mUp_at
  have f1 : ∀ c, c ≠ 52 → N1 c = N0 c := fun c hc => mUp_ne hc
  clear_value N1
  refine w_ba_21 g N1 P (nI 2) ⟨fun w => absurd w (by decide), fun _ => rr_at (i := 2) o_image (by decide) (by decide) ⟨fun _ => ⟨fun _ => ⟨fun w => absurd rfl w, fun _ => ⟨90, 90, ⟨_, mSx_at rfl⟩, ⟨_, mSx_at rfl⟩, by decide, by decide, by decide, by decide, by decide, ?_⟩⟩, fun w => absurd (by decide) w⟩, fun w => absurd (by decide) w⟩⟩
  intro N2
  have g2 : N2 53 = va_cpy (N1 81) (N1 53) 0 0 90 := mUp_at
  have f2 : ∀ c, c ≠ 53 → N2 c = N1 c := fun c hc => mUp_ne hc
  clear_value N2
  refine w_ba_21 g N2 P (nI 3) ⟨fun w => absurd w (by decide), fun _ => rr_at (i := 3) o_image (by decide) (by decide) ⟨fun _ => ⟨fun _ => ⟨fun _ => ⟨90, 90, ⟨_, mSx_at rfl⟩, ⟨_, mSx_at rfl⟩, by decide, by decide, by decide, by decide, by decide, ?_⟩, fun w => absurd (by decide) w⟩, fun w => absurd (by decide) w⟩, fun w => absurd (by decide) w⟩⟩
  intro N3
  have g3 : N3 54 = va_cpy (N2 82) (N2 54) 0 0 90 := mUp_at
  have f3 : ∀ c, c ≠ 54 → N3 c = N2 c := fun c hc => mUp_ne hc
  clear_value N3
  refine w_ba_21 g N3 P (nI 4) ⟨fun _ => ?_, fun w => absurd (by decide) w⟩
  have fr : ∀ c, ¬ (51 ≤ c ∧ c ≤ 54) → N3 c = M0 c := fun c hc => by rw [f3 c (by omega), f2 c (by omega), f1 c (by omega), f0 c (by omega)]
  have i0 : ∀ i, i < 90 → N3 51 i = M 79 i := fun i hi => by rw [f3 51 (by decide), f2 51 (by decide), f1 51 (by decide), g0, cpy_0 hi, hc0 79 (by decide)]
  have i1 : ∀ i, i < 90 → N3 52 i = M 80 i := fun i hi => by rw [f3 52 (by decide), f2 52 (by decide), g1, cpy_0 hi, f0 80 (by decide), hc0 80 (by decide)]
  have i2 : ∀ i, i < 90 → N3 53 i = M 81 i := fun i hi => by rw [f3 53 (by decide), g2, cpy_0 hi, f1 81 (by decide), f0 81 (by decide), hc0 81 (by decide)]
  have i3 : ∀ i, i < 90 → N3 54 i = M 82 i := fun i hi => by rw [g3, cpy_0 hi, f2 82 (by decide), f1 82 (by decide), f0 82 (by decide), hc0 82 (by decide)]
  have k50 : ∀ k, k ≠ 0 → N3 50 k = M 50 k := fun k hk => (congrFun (fr 50 (by decide)) k).trans (h50 k hk)
  have kc : ∀ c, c ≠ 50 → ¬ (51 ≤ c ∧ c ≤ 54) → N3 c = M c := fun c a b => (fr c b).trans (hc0 c a)
  have e0 : N3 50 0 = nI l.length := (congrFun (fr 50 (by decide)) 0).trans h0
  have hL : RmL N3 l.length l := fun i hi => by
    rw [i0 i (by omega), i1 i (by omega), i2 i (by omega), i3 i (by omega)]
    exact hl i hi
  rw [e0]
  refine ⟨(l.length, l), ⟨rfl, hL, hlI, Nat.le_refl _⟩, fun M4 h4 => ?_⟩
  obtain ⟨q1, q2⟩ := h4
  dsimp only at q1
  rw [List.take_length] at q1
  have e4 : M4 50 0 = nI l.length := (q2.2 0 (by decide)).trans e0
  rw [e4]
  have hz' : z.2.2 = (some l, z.2.2.2) := by rw [← hz]
  have := hR.newlog (M' := M4) (l := l) e4 (RmL_fr hL (fun c a b => q2.1 c (by omega))) q1 (fun k hk => (q2.2 k (by omega)).trans (k50 k (by omega))) (fun c hc => (q2.1 c (by omega)).trans (kc c (by omega) (by omega)))
  rw [hz'] at this
  exact hP _ _ rfl this (fun c hc => (q2.1 c (by omega)).trans (kc c (by omega) (by omega))))

theorem ok_X8_back : mOK yX8_back cX8_back 2 (some .int) 7 t_X8_back := mOK.of f_X8_back (by decide) (fun _ => rfl) (fun g => mCodeOK kk_X8_back) (fun g => mFldL fk_RX8 rfl) (fun g idx v h => by cases h) (fun g idx v h => by cases h) (mCalL (l := l_X8_back) (List.forall_mem_cons.mpr ⟨mSite.V (idx := 373) ok_X8_logRow (by decide) (by decide) rv_X8_logRow wc_X8_logRow wk_RX8_373 wi_X8_logRow wl_X8_logRow wn_RX8 wd_X8_logRow, List.forall_mem_cons.mpr ⟨mSite.copy (idx := 377) (by decide) (mIn 1501 (by decide +kernel) rfl) wnat_copy wst_copy wn_RJ10, List.forall_mem_cons.mpr ⟨mSite.V (idx := 323) ok_X8_goesThrough (by decide) (by decide) rv_X8_goesThrough wc_X8_goesThrough wk_RX8_323 wi_X8_goesThrough wl_X8_goesThrough wn_RX8 wd_X8_goesThrough, fun _ h => absurd h List.not_mem_nil⟩⟩⟩) (fun _ => rfl)) run_X8_back

