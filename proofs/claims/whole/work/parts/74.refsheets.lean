/-! ===== THE REFERENCE: sheets ===== -/
theorem RpM.sh {M M' : mM} {z : aZ} {k : Nat} {s : aSheet} (h : RpM M z) (hk : k < 4) (h1 : M' 83 k = s.1) (h2 : M' 84 k = nI s.2.1) (h3 : ∀ j, j < s.2.1 → M' (86 + k) j = s.2.2 j) (f : ∀ c, c < 83 → M' c = M c) (e1 : ∀ q, q ≠ k → M' 83 q = M 83 q ∧ M' 84 q = M 84 q) (e3 : ∀ q, q < 4 → q ≠ k → M' (86 + q) = M (86 + q)) (hl : (zT z.2.1).2.2.1.2.2.2.2.length ≤ 32) : RpM M' (zS z k s) ∧ FrM M M' := by
  obtain ⟨⟨t1, t2⟩, ⟨l0, l1⟩, ⟨u5, u6⟩, hT, hS⟩ := h
  have f50 : M' 50 = M 50 := f 50 (by decide)
  refine ⟨⟨⟨by rw [f50]; exact t1, fun j hj => by rw [f 77 (by decide)]; exact t2 j hj⟩, ⟨by rw [f50]; exact l0, RmL_fr l1 (fun c a b => f c (by omega))⟩, ⟨by rw [f50]; exact u5, fun l hl i hi => by rw [f 79 (by decide), f 80 (by decide), f 81 (by decide), f 82 (by decide)]; exact u6 l hl i hi⟩, RmT_fr hT (fun k _ => by rw [f50]) (fun c a b => f c (by omega)) hl, fun q hq => ?_⟩, fun c hc => f c (by omega)⟩
  show M' 83 q = (if q = k then s else z.2.2.2 q).1 ∧ M' 84 q = nI (if q = k then s else z.2.2.2 q).2.1 ∧ ∀ j, j < (if q = k then s else z.2.2.2 q).2.1 → M' (86 + q) j = (if q = k then s else z.2.2.2 q).2.2 j
  by_cases e : q = k
  · rw [if_pos e, e]
    exact ⟨h1, h2, h3⟩
  · rw [if_neg e, (e1 q e).1, (e1 q e).2, e3 q hq e]
    exact hS q hq
theorem out2_at {c first n m i : Nat} (h : out2 c first n m) (hi : i < n) : mSH[first + i]? = some (0, m, []) := by
  obtain ⟨rs, -, h2⟩ := h
  exact (h2 i hi).2
theorem fIn_s (y : Int32) : fIn y (-1) (nI 1) = mb (y = -1 ∨ (ix y 2).isSome = true) := by
  unfold fIn
  refine mb_congr ?_
  rcases ix_cs y (n := 2) (by decide) with ⟨h, e⟩ | ⟨k, hk, rfl, e⟩
  · rw [e]
    refine ⟨fun w => Or.inl ?_, fun w => ?_⟩
    · obtain ⟨w1, w2⟩ := w
      simp (disch := omega) only [fa_lt, fa_le, nI_toInt, Int32.toInt_zero, toInt_m1] at h w1 w2
      rw [fa_eq, toInt_m1]
      omega
    · rcases w with rfl | w
      · decide
      · cases w
  · rw [e]
    refine ⟨fun _ => Or.inr rfl, fun _ => ⟨?_, nI_le (by omega) (by decide)⟩⟩
    simp (disch := omega) only [fa_le, nI_toInt, toInt_m1]
    omega
def k_X8_isSheet : List (Nat × mI) := [(0, .iload_n 0, 1, 0, 0, []),
  (1, .iconst 0, 1, 0, nI 0, []),
  (2, .iconst 3, 1, 0, nI 3, []),
  (3, .invokestatic 214, 3, 0, 0, []),
  (6, .ireturn, 1, 0, 0, [])]
theorem kk_X8_isSheet : (k_X8_isSheet.all fun e => mChk cX8_isSheet e.1 e.2) = true := by decide +kernel
def l_X8_isSheet : List (Nat × Nat × (mG → mT)) := [(3 * 214 + 1, 3, t_X8_in)]
def f_X8_isSheet (g : mG) : mF := (mLk k_X8_isSheet, mLk fl_RX8, mLk (l_X8_isSheet.map fun e => (e.1, e.2.1, e.2.2 g)), mLk ([] : List (Nat × mV)), mLk ([] : List (Nat × mV)), some .boolean)
theorem m_X8_isSheet (g : mG) : mMono (f_X8_isSheet g) := mMonoL (g := g) (l := l_X8_isSheet) (List.forall_mem_cons.mpr ⟨mo_X8_in, fun _ h => absurd h List.not_mem_nil⟩) rfl
def t_X8_isSheet : mG → mT := mSV f_X8_isSheet 1 6
theorem mo_X8_isSheet : mMn t_X8_isSheet := mSV_mono m_X8_isSheet
theorem ok_X8_isSheet : mOK yX8_isSheet cX8_isSheet 1 (some .boolean) 2 t_X8_isSheet := mOK.of f_X8_isSheet (by decide) (fun _ => rfl) (fun g => mCodeOK kk_X8_isSheet) (fun g => mFldL fk_RX8 rfl) (fun g idx v h => by cases h) (fun g idx v h => by cases h) (mCalL (l := l_X8_isSheet) (List.forall_mem_cons.mpr ⟨mSite.S (idx := 214) ok_X8_in (by decide) (by decide) wc_X8_in wk_RX8_214 wt_X8_in wn_RX8 wd_X8_in, fun _ h => absurd h List.not_mem_nil⟩) (fun _ => rfl)) (mSV_run m_X8_isSheet)

abbrev t_X8_sheet : mG → mT := pubM 3 F_sheet
theorem mo_X8_sheet : mMn t_X8_sheet := pubM_mono
theorem rv_X8_sheet : mHasR yX8_sheet 3 t_X8_sheet := pubM_recv rfl
def k_X8_sheet : List (Nat × mI) := [(0, .iload_n 1, 1, 1, 0, []),
  (1, .invokestatic 367, 3, 0, 0, []),
  (4, .ifCond .eq 22, 3, 26, 0, []),
  (7, .iload_n 2, 1, 2, 0, []),
  (8, .iconst (-1), 1, 0, -1, []),
  (9, .iconst 1, 1, 0, nI 1, []),
  (10, .invokestatic 214, 3, 0, 0, []),
  (13, .ifCond .eq 13, 3, 26, 0, []),
  (16, .iload_n 2, 1, 2, 0, []),
  (17, .ifCond .lt 12, 3, 29, 0, []),
  (20, .iload_n 3, 1, 3, 0, []),
  (21, .bipush 40, 2, 0, nI 40, []),
  (23, .if_icmp .le 6, 3, 29, 0, []),
  (26, .bipush (-2), 2, 0, -2, []),
  (28, .ireturn, 1, 0, 0, []),
  (29, .iload_n 2, 1, 2, 0, []),
  (30, .ifCond .lt 10, 3, 40, 0, []),
  (33, .iload_n 3, 1, 3, 0, []),
  (34, .ifCond .ge 6, 3, 40, 0, []),
  (37, .bipush (-14), 2, 0, -14, []),
  (39, .ireturn, 1, 0, 0, []),
  (40, .aload_n 0, 1, 0, 0, []),
  (41, .getfield 64, 3, 0, 0, []),
  (44, .iload_n 1, 1, 1, 0, []),
  (45, .iload_n 2, 1, 2, 0, []),
  (46, .iastore, 1, 0, 0, []),
  (47, .aload_n 0, 1, 0, 0, []),
  (48, .getfield 67, 3, 0, 0, []),
  (51, .iload_n 1, 1, 1, 0, []),
  (52, .iload_n 2, 1, 2, 0, []),
  (53, .ifCond .ge 7, 3, 60, 0, []),
  (56, .iconst 0, 1, 0, nI 0, []),
  (57, .goto 4, 3, 61, 0, []),
  (60, .iload_n 3, 1, 3, 0, []),
  (61, .iastore, 1, 0, 0, []),
  (62, .iconst 0, 1, 0, nI 0, []),
  (63, .istore 4, 2, 4, 0, []),
  (65, .iload 4, 2, 4, 0, []),
  (67, .bipush 40, 2, 0, nI 40, []),
  (69, .if_icmp .ge 19, 3, 88, 0, []),
  (72, .aload_n 0, 1, 0, 0, []),
  (73, .getfield 70, 3, 0, 0, []),
  (76, .iload_n 1, 1, 1, 0, []),
  (77, .aaload, 1, 1, 0, []),
  (78, .iload 4, 2, 4, 0, []),
  (80, .iconst 0, 1, 0, nI 0, []),
  (81, .iastore, 1, 1, 0, []),
  (82, .iinc 4 1, 3, 4, nI 1, []),
  (85, .goto (-20), 3, 65, 0, []),
  (88, .iconst 1, 1, 0, nI 1, []),
  (89, .ireturn, 1, 0, 0, [])]
theorem kk_X8_sheet : (k_X8_sheet.all fun e => mChk cX8_sheet e.1 e.2) = true := by decide +kernel
def l_X8_sheet : List (Nat × Nat × (mG → mT)) := [(3 * 367 + 1, 1, t_X8_isSheet), (3 * 214 + 1, 3, t_X8_in)]
def f_X8_sheet (g : mG) : mF := (mLk k_X8_sheet, mLk fl_RX8, mLk (l_X8_sheet.map fun e => (e.1, e.2.1, e.2.2 g)), mLk ([] : List (Nat × mV)), mLk ([] : List (Nat × mV)), some .int)
theorem m_X8_sheet (g : mG) : mMono (f_X8_sheet g) := mMonoL (g := g) (l := l_X8_sheet) (List.forall_mem_cons.mpr ⟨mo_X8_isSheet, List.forall_mem_cons.mpr ⟨mo_X8_in, fun _ h => absurd h List.not_mem_nil⟩⟩) rfl

theorem w_sh_0 (g : mG) (M : mM) (P : mP) (x y u : Int32)
    (h : ((fIn x (nI 0) (nI 3)) = 0 ∨ (fIn x (nI 0) (nI 3)) = 1) ∧ (((fIn x (nI 0) (nI 3)) = 0 → P (some (.inl (-2))) M) ∧ (¬ ((fIn x (nI 0) (nI 3)) = 0) → ((fIn y (-1) (nI 1)) = 0 → P (some (.inl (-2))) M) ∧ (¬ ((fIn y (-1) (nI 1)) = 0) → (y < 0 → (y < 0 → mRun (mSx g) (f_X8_sheet g) P (40, [some (.inr (some 50)), some (.inl x), some (.inl y), some (.inl u), none], [], M)) ∧ (¬ (y < 0) → (0 ≤ u → mRun (mSx g) (f_X8_sheet g) P (40, [some (.inr (some 50)), some (.inl x), some (.inl y), some (.inl u), none], [], M)) ∧ (¬ (0 ≤ u) → P (some (.inl (-14))) M))) ∧ (¬ (y < 0) → (u ≤ (nI 40) → (y < 0 → mRun (mSx g) (f_X8_sheet g) P (40, [some (.inr (some 50)), some (.inl x), some (.inl y), some (.inl u), none], [], M)) ∧ (¬ (y < 0) → (0 ≤ u → mRun (mSx g) (f_X8_sheet g) P (40, [some (.inr (some 50)), some (.inl x), some (.inl y), some (.inl u), none], [], M)) ∧ (¬ (0 ≤ u) → P (some (.inl (-14))) M))) ∧ (¬ (u ≤ (nI 40)) → P (some (.inl (-2))) M)))))) :
    mRun (mSx g) (f_X8_sheet g) P (0, [some (.inr (some 50)), some (.inl x), some (.inl y), some (.inl u), none], [], M) := mRun.vc (m_X8_sheet g) [40] 19 h

theorem w_sh_40 (g : mG) (M : mM) (P : mP) (x y u : Int32)
    (h : vp_in x 4 ∧ (let M1 : mM := mW1 M 83 x.toNatClampNeg y; (0 ≤ y → vp_in x 4 ∧ (let M3 : mM := mW1 M1 84 x.toNatClampNeg u; mRun (mSx g) (f_X8_sheet g) P (65, [some (.inr (some 50)), some (.inl x), some (.inl y), some (.inl u), some (.inl (nI 0))], [], M3))) ∧ (¬ (0 ≤ y) → vp_in x 4 ∧ (let M4 : mM := mW1 M1 84 x.toNatClampNeg (nI 0); mRun (mSx g) (f_X8_sheet g) P (65, [some (.inr (some 50)), some (.inl x), some (.inl y), some (.inl u), some (.inl (nI 0))], [], M4))))) :
    mRun (mSx g) (f_X8_sheet g) P (40, [some (.inr (some 50)), some (.inl x), some (.inl y), some (.inl u), none], [], M) := mRun.vc (m_X8_sheet g) [65] 16 h

theorem w_sh_65 (g : mG) (M : mM) (P : mP) (x y u i : Int32)
    (h : ((nI 40) ≤ i → P (some (.inl (nI 1))) M) ∧ (¬ ((nI 40) ≤ i) → ∃ (n2 k3 c4 : Nat) (rs5 : List (Option Nat)), (mSx g)[85]? = some (1, n2, rs5) ∧ x = nI k3 ∧ k3 < n2 ∧ n2 < 2 ^ 31 ∧ rs5[k3]? = some (some c4) ∧ (∃ (n6 : Nat) (rs7 : List (Option Nat)), (mSx g)[c4]? = some (0, n6, rs7) ∧ vp_in i n6 ∧ (let M8 : mM := mW1 M c4 i.toNatClampNeg (nI 0); mRun (mSx g) (f_X8_sheet g) P (65, [some (.inr (some 50)), some (.inl x), some (.inl y), some (.inl u), some (.inl (i + (nI 1)))], [], M8))))) :
    mRun (mSx g) (f_X8_sheet g) P (65, [some (.inr (some 50)), some (.inl x), some (.inl y), some (.inl u), some (.inl i)], [], M) := mRun.vc (m_X8_sheet g) [65] 13 h

theorem shM_loop (g : mG) (P : mP) (M0 : mM) (y u : Int32) (k : Nat) (hk : k < 4) (hP : ∀ M' : mM, (∀ c, c ≠ 86 + k → M' c = M0 c) → (∀ j, j < 40 → M' (86 + k) j = 0) → P (some (.inl (nI 1))) M') :
    ∀ (n i : Nat) (M : mM), i + n = 40 → (∀ c, c ≠ 86 + k → M c = M0 c) → (∀ j, j < i → M (86 + k) j = 0) → mRun (mSx g) (f_X8_sheet g) P (65, [some (.inr (some 50)), some (.inl (nI k)), some (.inl y), some (.inl u), some (.inl (nI i))], [], M)
  | 0, i, M, h, h1, h2 => by
    obtain rfl : i = 40 := by omega
    exact w_sh_65 g M P _ _ _ _ ⟨fun _ => hP M h1 h2, fun w => absurd (nI_le (Nat.le_refl 40) (by decide)) w⟩
  | n + 1, i, M, h, h1, h2 => by
    refine w_sh_65 g M P _ _ _ _ ⟨fun w => absurd w (nI_ge (by omega) (by decide)), fun _ => rr_at (i := k) o_items (by decide) hk (ri_at o_items hk (show i < 40 by omega) (by decide) ?_)⟩
    rw [nI_clamp (by omega), nI_add]
    intro M9
    refine shM_loop g P M0 y u k hk hP n (i + 1) M9 (by omega) (fun c hc => (mW1_c hc).trans (h1 c hc)) (fun j hj => ?_)
    show mW1 M (86 + k) i _ (86 + k) j = _
    by_cases e : j = i
    · rw [e, mW1_s]
      rfl
    · rw [mW1_k e]
      exact h2 j (by omega)
theorem shM_40 (g : mG) (P : mP) (M : mM) (z : aZ) (y u : Int32) (k n : Nat) (hk : k < 4) (hR : RpM M z) (hI : zInv z) (hn : (0 ≤ y → u = nI n) ∧ (¬ 0 ≤ y → n = 0)) (hn40 : n ≤ 40)
    (hP : ∀ M', RpM M' (zS z k (y, n, fun _ => 0)) → FrM M M' → P (some (.inl (nI 1))) M') : mRun (mSx g) (f_X8_sheet g) P (40, [some (.inr (some 50)), some (.inl (nI k)), some (.inl y), some (.inl u), none], [], M) := by
  refine w_sh_40 g M P _ _ _ ⟨vp_in_nI hk (by decide), ?_⟩
  rw [nI_clamp (by omega)]
  intro M1
  have fin : ∀ v : Int32, v = nI n → mRun (mSx g) (f_X8_sheet g) P (65, [some (.inr (some 50)), some (.inl (nI k)), some (.inl y), some (.inl u), some (.inl (nI 0))], [], mW1 M1 84 k v) := fun v hv => by
    refine shM_loop g P _ y u k hk (fun M' a1 a2 => ?_) 40 0 _ rfl (fun _ _ => rfl) (fun j hj => absurd hj (Nat.not_lt_zero j))
    have f1 : ∀ c, c ≠ 83 → c ≠ 84 → mW1 M1 84 k v c = M c := fun c h1 h2 => (mW1_c h2).trans (mW1_c h1)
    have hh := hR.sh (M' := M') (s := (y, n, fun _ => 0)) hk ?_ ?_ (fun j hj => a2 j (by have : j < n := hj; omega)) (fun c hc => (a1 c (by omega)).trans (f1 c (by omega) (by omega))) (fun q hq => ⟨?_, ?_⟩) (fun q h4 hq => (a1 (86 + q) (by omega)).trans (f1 (86 + q) (by omega) (by omega))) hI.T.len
    · exact hP M' hh.1 hh.2
    · rw [a1 83 (by omega), mW1_c (by decide)]
      exact mW1_s
    · rw [a1 84 (by omega), mW1_s, hv]
    · rw [a1 83 (by omega), mW1_c (by decide)]
      exact mW1_k hq
    · rw [a1 84 (by omega), mW1_k hq]
      exact congrFun (mW1_c (by decide)) q
  refine ⟨fun w => ⟨vp_in_nI hk (by decide), fin u (hn.1 w)⟩, fun w => ⟨vp_in_nI hk (by decide), fin (nI 0) (by rw [hn.2 w])⟩⟩
theorem run_X8_sheet : mRunOf 5 t_X8_sheet f_X8_sheet := runM3 (by decide) (fun g M P z x y u hR hI hP => by
  refine w_sh_0 g M P x y u ?_
  rw [fI3, fIn_s]
  refine ⟨mb_01, ?_⟩
  rcases ix_cs x (n := 4) (by decide) with ⟨hx, e1⟩ | ⟨k, hk, rfl, e1⟩
  · rw [show F_sheet z [x, y, u] = (-2, z) by simp only [F_sheet, e1]] at hP
    rw [e1, mb_no]
    exact ⟨fun _ => hP _ _ rfl hR FrM.refl, fun h => absurd rfl h⟩
  rw [e1, mb_so]
  refine ⟨fun h => absurd h (by decide), fun _ => ?_⟩
  by_cases hm : y = -1
  · have hlt : y < 0 := by rw [hm]; decide
    have hng : ¬ 0 ≤ y := by rw [hm]; decide
    rw [show F_sheet z [nI k, y, u] = (1, zS z k (-1, 0, fun _ => 0)) by simp only [F_sheet, e1, if_pos hm]] at hP
    rw [mb_t (Or.inl hm)]
    have go := shM_40 g P M z y u k 0 hk hR hI ⟨fun w => absurd w hng, fun _ => rfl⟩ (by decide) (fun M' a b => hP _ M' rfl (by rw [hm] at a; exact a) b)
    exact ⟨fun h => absurd h (by decide), fun _ => ⟨fun _ => ⟨fun _ => go, fun w => absurd hlt w⟩, fun w => absurd hlt w⟩⟩
  rcases ix_cs y (n := 2) (by decide) with ⟨hy, e2⟩ | ⟨t, ht, rfl, e2⟩
  · rw [show F_sheet z [nI k, y, u] = (-2, z) by simp only [F_sheet, e1, if_neg hm, e2]] at hP
    rw [mb_f (fun w => w.elim hm (fun q => by rw [e2] at q; cases q))]
    exact ⟨fun _ => hP _ _ rfl hR FrM.refl, fun h => absurd rfl h⟩
  rw [show F_sheet z [nI k, nI t, u] = if nI 40 < u then (-2, z) else if u < 0 then (-14, z) else (1, zS z k (nI t, ub u, fun _ => 0)) by simp only [F_sheet, e1, if_neg hm, e2]] at hP
  rw [mb_t (Or.inr (by rw [e2]; rfl))]
  have hge : ¬ nI t < 0 := nI_pos (by omega)
  refine ⟨fun h => absurd h (by decide), fun _ => ⟨fun w => absurd w hge, fun _ => ⟨fun w1 => ⟨fun w => absurd w hge, fun _ => ⟨fun w2 => ?_, fun w2 => ?_⟩⟩, fun w1 => ?_⟩⟩⟩
  · rw [if_neg (Int32.not_lt.mpr w1), if_neg (Int32.not_lt.mpr w2)] at hP
    rcases ix_cs u (n := 41) (by decide) with ⟨hu, e3⟩ | ⟨n, hn, rfl, e3⟩
    · exfalso
      simp (disch := omega) only [fa_lt, fa_le, nI_toInt, Int32.toInt_zero] at hu w1 w2
      omega
    · rw [ub_nI (by omega)] at hP
      exact shM_40 g P M z _ _ k n hk hR hI ⟨fun _ => rfl, fun w => absurd (nI_pos' (by omega)) w⟩ (by omega) (fun M' a b => hP _ M' rfl a b)
  · rw [if_neg (Int32.not_lt.mpr w1), if_pos (Int32.not_le.mp w2)] at hP
    exact hP _ _ rfl hR FrM.refl
  · rw [if_pos (Int32.not_le.mp w1)] at hP
    exact hP _ _ rfl hR FrM.refl)

theorem ok_X8_sheet : mOK yX8_sheet cX8_sheet 5 (some .int) 3 t_X8_sheet := mOK.of f_X8_sheet (by decide) (fun _ => rfl) (fun g => mCodeOK kk_X8_sheet) (fun g => mFldL fk_RX8 rfl) (fun g idx v h => by cases h) (fun g idx v h => by cases h) (mCalL (l := l_X8_sheet) (List.forall_mem_cons.mpr ⟨mSite.S (idx := 367) ok_X8_isSheet (by decide) (by decide) wc_X8_isSheet wk_RX8_367 wt_X8_isSheet wn_RX8 wd_X8_isSheet, List.forall_mem_cons.mpr ⟨mSite.S (idx := 214) ok_X8_in (by decide) (by decide) wc_X8_in wk_RX8_214 wt_X8_in wn_RX8 wd_X8_in, fun _ h => absurd h List.not_mem_nil⟩⟩) (fun _ => rfl)) run_X8_sheet

abbrev t_X8_cell : mG → mT := pubM 3 F_cell
theorem mo_X8_cell : mMn t_X8_cell := pubM_mono
theorem rv_X8_cell : mHasR yX8_cell 3 t_X8_cell := pubM_recv rfl
def k_X8_cell : List (Nat × mI) := [(0, .iload_n 1, 1, 1, 0, []),
  (1, .invokestatic 367, 3, 0, 0, []),
  (4, .ifCond .ne 6, 3, 10, 0, []),
  (7, .bipush (-2), 2, 0, -2, []),
  (9, .ireturn, 1, 0, 0, []),
  (10, .aload_n 0, 1, 0, 0, []),
  (11, .getfield 64, 3, 0, 0, []),
  (14, .iload_n 1, 1, 1, 0, []),
  (15, .iaload, 1, 0, 0, []),
  (16, .ifCond .ge 6, 3, 22, 0, []),
  (19, .bipush (-11), 2, 0, -11, []),
  (21, .ireturn, 1, 0, 0, []),
  (22, .iload_n 2, 1, 2, 0, []),
  (23, .iconst 0, 1, 0, nI 0, []),
  (24, .aload_n 0, 1, 0, 0, []),
  (25, .getfield 67, 3, 0, 0, []),
  (28, .iload_n 1, 1, 1, 0, []),
  (29, .iaload, 1, 0, 0, []),
  (30, .iconst 1, 1, 0, nI 1, []),
  (31, .isub, 1, 0, 0, []),
  (32, .invokestatic 214, 3, 0, 0, []),
  (35, .ifCond .ne 6, 3, 41, 0, []),
  (38, .bipush (-12), 2, 0, -12, []),
  (40, .ireturn, 1, 0, 0, []),
  (41, .aload_n 0, 1, 0, 0, []),
  (42, .getfield 70, 3, 0, 0, []),
  (45, .iload_n 1, 1, 1, 0, []),
  (46, .aaload, 1, 1, 0, []),
  (47, .iload_n 2, 1, 2, 0, []),
  (48, .aload_n 0, 1, 0, 0, []),
  (49, .getfield 64, 3, 0, 0, []),
  (52, .iload_n 1, 1, 1, 0, []),
  (53, .iaload, 1, 0, 0, []),
  (54, .ifCond .ne 8, 3, 62, 0, []),
  (57, .iload_n 3, 1, 3, 0, []),
  (58, .i2b, 1, 0, 0, []),
  (59, .goto 4, 3, 63, 0, []),
  (62, .iload_n 3, 1, 3, 0, []),
  (63, .iastore, 1, 1, 0, []),
  (64, .iconst 1, 1, 0, nI 1, []),
  (65, .ireturn, 1, 0, 0, [])]
theorem kk_X8_cell : (k_X8_cell.all fun e => mChk cX8_cell e.1 e.2) = true := by decide +kernel
def l_X8_cell : List (Nat × Nat × (mG → mT)) := [(3 * 367 + 1, 1, t_X8_isSheet), (3 * 214 + 1, 3, t_X8_in)]
def f_X8_cell (g : mG) : mF := (mLk k_X8_cell, mLk fl_RX8, mLk (l_X8_cell.map fun e => (e.1, e.2.1, e.2.2 g)), mLk ([] : List (Nat × mV)), mLk ([] : List (Nat × mV)), some .int)
theorem m_X8_cell (g : mG) : mMono (f_X8_cell g) := mMonoL (g := g) (l := l_X8_cell) (List.forall_mem_cons.mpr ⟨mo_X8_isSheet, List.forall_mem_cons.mpr ⟨mo_X8_in, fun _ h => absurd h List.not_mem_nil⟩⟩) rfl

theorem w_cell (g : mG) (M : mM) (P : mP) (x y u : Int32)
    (h : ((fIn x (nI 0) (nI 3)) = 0 ∨ (fIn x (nI 0) (nI 3)) = 1) ∧ ((¬ (fIn x (nI 0) (nI 3)) = 0 → vp_in x 4 ∧ ((0 ≤ (M 83 x.toNatClampNeg) → vp_in x 4 ∧ ((¬ (fIn y (nI 0) ((M 84 x.toNatClampNeg) - (nI 1))) = 0 → ∃ (n4 k5 c6 : Nat) (rs7 : List (Option Nat)), (mSx g)[85]? = some (1, n4, rs7) ∧ x = nI k5 ∧ k5 < n4 ∧ n4 < 2 ^ 31 ∧ rs7[k5]? = some (some c6) ∧ (vp_in x 4 ∧ ((¬ (M 83 x.toNatClampNeg) = 0 → ∃ (n9 : Nat) (rs10 : List (Option Nat)), (mSx g)[c6]? = some (0, n9, rs10) ∧ vp_in y n9 ∧ (let M11 : mM := mW1 M c6 y.toNatClampNeg u; P (some (.inl (nI 1))) M11)) ∧ (¬ (¬ (M 83 x.toNatClampNeg) = 0) → ∃ (n12 : Nat) (rs13 : List (Option Nat)), (mSx g)[c6]? = some (0, n12, rs13) ∧ vp_in y n12 ∧ (let M14 : mM := mW1 M c6 y.toNatClampNeg u.toInt8.toInt32; P (some (.inl (nI 1))) M14))))) ∧ (¬ (¬ (fIn y (nI 0) ((M 84 x.toNatClampNeg) - (nI 1))) = 0) → P (some (.inl (-12))) M))) ∧ (¬ (0 ≤ (M 83 x.toNatClampNeg)) → P (some (.inl (-11))) M))) ∧ (¬ (¬ (fIn x (nI 0) (nI 3)) = 0) → P (some (.inl (-2))) M))) :
    mRun (mSx g) (f_X8_cell g) P (0, [some (.inr (some 50)), some (.inl x), some (.inl y), some (.inl u)], [], M) := mRun.vc (m_X8_cell g) [] 34 h

/-- a sheet is there -/
theorem sh_there {s : aSheet} (h : sInv s) : (0 ≤ s.1 ↔ ¬ s.1 = -1) ∧ (s.1 < 0 ↔ s.1 = -1) := by
  rcases h.1 with e | e | e <;> rw [e] <;> decide
theorem run_X8_cell : mRunOf 4 t_X8_cell f_X8_cell := runM3 (by decide) (fun g M P z x y u hR hI hP => by
  refine w_cell g M P x y u ?_
  rw [fI3]
  refine ⟨mb_01, ?_⟩
  rcases ix_cs x (n := 4) (by decide) with ⟨hx, e1⟩ | ⟨k, hk, rfl, e1⟩
  · rw [show F_cell z [x, y, u] = (-2, z) by simp only [F_cell, e1]] at hP
    rw [e1, mb_no]
    exact ⟨fun h => absurd rfl h, fun _ => hP _ _ rfl hR FrM.refl⟩
  obtain ⟨a1, a2, a3⟩ := hR.2.2.2.2 k hk
  have hs := hI.2.2.2 k hk
  have h40 := hs.2.1
  have v4 : vp_in (nI k) 4 := vp_in_nI hk (by decide)
  rw [e1, mb_so, nI_clamp (by omega), a1, a2, (sh_there hs).1]
  refine ⟨fun _ => ⟨v4, fun hz => ⟨v4, ?_⟩, fun hz => ?_⟩, fun h => absurd (by decide) h⟩
  · rw [fIn_len (by omega)]
    rcases ix_cs y (n := (z.2.2.2 k).2.1) (by omega) with ⟨hy, e2⟩ | ⟨j, hj, rfl, e2⟩
    · rw [show F_cell z [nI k, y, u] = (-12, z) by simp only [F_cell, e1, if_neg hz, e2]] at hP
      rw [e2, mb_no]
      exact ⟨fun h => absurd rfl h, fun _ => hP _ _ rfl hR FrM.refl⟩
    rw [show F_cell z [nI k, nI j, u] = (1, zS z k ((z.2.2.2 k).1, (z.2.2.2 k).2.1, upd (z.2.2.2 k).2.2 j (if (z.2.2.2 k).1 = 0 then u.toInt8.toInt32 else u))) by simp only [F_cell, e1, if_neg hz, e2]] at hP
    rw [e2, mb_so, nI_clamp (by omega)]
    refine ⟨fun _ => rr_at (i := k) o_items (by decide) hk ⟨v4, ?_⟩, fun h => absurd (by decide) h⟩
    have fin : ∀ v : Int32, v = (if (z.2.2.2 k).1 = 0 then u.toInt8.toInt32 else u) → P (some (.inl (nI 1))) (mW1 M (86 + k) j v) := fun v hv => by
      have hh := hR.sh (M' := mW1 M (86 + k) j v) (s := ((z.2.2.2 k).1, (z.2.2.2 k).2.1, upd (z.2.2.2 k).2.2 j (if (z.2.2.2 k).1 = 0 then u.toInt8.toInt32 else u))) hk ?_ ?_ (fun i hi => ?_) (fun c hc => mW1_c (by omega)) (fun q hq => ⟨congrFun (mW1_c (by omega)) q, congrFun (mW1_c (by omega)) q⟩) (fun q h4 hq => mW1_c (by omega)) hI.T.len
      · exact hP _ _ rfl hh.1 hh.2
      · exact (congrFun (mW1_c (by omega)) k).trans a1
      · exact (congrFun (mW1_c (by omega)) k).trans a2
      · show _ = upd (z.2.2.2 k).2.2 j _ i
        by_cases e : i = j
        · rw [e, mW1_s, upd_s, hv]
        · rw [mW1_k e, upd_n e]
          exact a3 i hi
    refine ⟨fun w => ri_at o_items hk (show j < 40 by omega) (by decide) ?_, fun w => ri_at o_items hk (show j < 40 by omega) (by decide) ?_⟩
    · exact fin u (by rw [if_neg w])
    · exact fin _ (by rw [if_pos (Classical.not_not.mp w)])
  · rw [show F_cell z [nI k, y, u] = (-11, z) by simp only [F_cell, e1, if_pos (Classical.not_not.mp hz)]] at hP
    exact hP _ _ rfl hR FrM.refl)

theorem ok_X8_cell : mOK yX8_cell cX8_cell 4 (some .int) 3 t_X8_cell := mOK.of f_X8_cell (by decide) (fun _ => rfl) (fun g => mCodeOK kk_X8_cell) (fun g => mFldL fk_RX8 rfl) (fun g idx v h => by cases h) (fun g idx v h => by cases h) (mCalL (l := l_X8_cell) (List.forall_mem_cons.mpr ⟨mSite.S (idx := 367) ok_X8_isSheet (by decide) (by decide) wc_X8_isSheet wk_RX8_367 wt_X8_isSheet wn_RX8 wd_X8_isSheet, List.forall_mem_cons.mpr ⟨mSite.S (idx := 214) ok_X8_in (by decide) (by decide) wc_X8_in wk_RX8_214 wt_X8_in wn_RX8 wd_X8_in, fun _ h => absurd h List.not_mem_nil⟩⟩) (fun _ => rfl)) run_X8_cell

abbrev t_X8_film : mG → mT := pubM 1 F_film
theorem mo_X8_film : mMn t_X8_film := pubM_mono
theorem rv_X8_film : mHasR yX8_film 1 t_X8_film := pubM_recv rfl
def k_X8_film : List (Nat × mI) := [(0, .iload_n 1, 1, 1, 0, []),
  (1, .invokestatic 367, 3, 0, 0, []),
  (4, .ifCond .ne 6, 3, 10, 0, []),
  (7, .bipush (-2), 2, 0, -2, []),
  (9, .ireturn, 1, 0, 0, []),
  (10, .aload_n 0, 1, 0, 0, []),
  (11, .getfield 64, 3, 0, 0, []),
  (14, .iload_n 1, 1, 1, 0, []),
  (15, .iconst 0, 1, 0, nI 0, []),
  (16, .iastore, 1, 0, 0, []),
  (17, .aload_n 0, 1, 0, 0, []),
  (18, .getfield 67, 3, 0, 0, []),
  (21, .iload_n 1, 1, 1, 0, []),
  (22, .aload_n 0, 1, 0, 0, []),
  (23, .getfield 97, 3, 0, 0, []),
  (26, .iastore, 1, 0, 0, []),
  (27, .iconst 0, 1, 0, nI 0, []),
  (28, .istore_n 2, 1, 2, 0, []),
  (29, .iload_n 2, 1, 2, 0, []),
  (30, .aload_n 0, 1, 0, 0, []),
  (31, .getfield 97, 3, 0, 0, []),
  (34, .if_icmp .ge 23, 3, 57, 0, []),
  (37, .aload_n 0, 1, 0, 0, []),
  (38, .getfield 70, 3, 0, 0, []),
  (41, .iload_n 1, 1, 1, 0, []),
  (42, .aaload, 1, 1, 0, []),
  (43, .iload_n 2, 1, 2, 0, []),
  (44, .aload_n 0, 1, 0, 0, []),
  (45, .getfield 39, 3, 0, 0, []),
  (48, .iload_n 2, 1, 2, 0, []),
  (49, .iaload, 1, 0, 0, []),
  (50, .iastore, 1, 1, 0, []),
  (51, .iinc 2 1, 3, 2, nI 1, []),
  (54, .goto (-25), 3, 29, 0, []),
  (57, .aload_n 0, 1, 0, 0, []),
  (58, .getfield 97, 3, 0, 0, []),
  (61, .ireturn, 1, 0, 0, [])]
theorem kk_X8_film : (k_X8_film.all fun e => mChk cX8_film e.1 e.2) = true := by decide +kernel
def l_X8_film : List (Nat × Nat × (mG → mT)) := [(3 * 367 + 1, 1, t_X8_isSheet)]
def f_X8_film (g : mG) : mF := (mLk k_X8_film, mLk fl_RX8, mLk (l_X8_film.map fun e => (e.1, e.2.1, e.2.2 g)), mLk ([] : List (Nat × mV)), mLk ([] : List (Nat × mV)), some .int)
theorem m_X8_film (g : mG) : mMono (f_X8_film g) := mMonoL (g := g) (l := l_X8_film) (List.forall_mem_cons.mpr ⟨mo_X8_isSheet, fun _ h => absurd h List.not_mem_nil⟩) rfl

theorem w_film_0 (g : mG) (M : mM) (P : mP) (x : Int32)
    (h : ((fIn x (nI 0) (nI 3)) = 0 ∨ (fIn x (nI 0) (nI 3)) = 1) ∧ ((¬ (fIn x (nI 0) (nI 3)) = 0 → vp_in x 4 ∧ (let M2 : mM := mW1 M 83 x.toNatClampNeg (nI 0); vp_in x 4 ∧ (let M3 : mM := mW1 M2 84 x.toNatClampNeg (M 50 19); mRun (mSx g) (f_X8_film g) P (29, [some (.inr (some 50)), some (.inl x), some (.inl (nI 0))], [], M3)))) ∧ (¬ (¬ (fIn x (nI 0) (nI 3)) = 0) → P (some (.inl (-2))) M))) :
    mRun (mSx g) (f_X8_film g) P (0, [some (.inr (some 50)), some (.inl x), none], [], M) := mRun.vc (m_X8_film g) [29] 17 h

theorem w_film_29 (g : mG) (M : mM) (P : mP) (x i : Int32)
    (h : ((M 50 19) ≤ i → P (some (.inl (M 50 19))) M) ∧ (¬ ((M 50 19) ≤ i) → ∃ (n2 k3 c4 : Nat) (rs5 : List (Option Nat)), (mSx g)[85]? = some (1, n2, rs5) ∧ x = nI k3 ∧ k3 < n2 ∧ n2 < 2 ^ 31 ∧ rs5[k3]? = some (some c4) ∧ (vp_in i 8 ∧ (∃ (n6 : Nat) (rs7 : List (Option Nat)), (mSx g)[c4]? = some (0, n6, rs7) ∧ vp_in i n6 ∧ (let M8 : mM := mW1 M c4 i.toNatClampNeg (M 62 i.toNatClampNeg); mRun (mSx g) (f_X8_film g) P (29, [some (.inr (some 50)), some (.inl x), some (.inl (i + (nI 1)))], [], M8)))))) :
    mRun (mSx g) (f_X8_film g) P (29, [some (.inr (some 50)), some (.inl x), some (.inl i)], [], M) := mRun.vc (m_X8_film g) [29] 17 h

theorem filmM_loop (g : mG) (P : mP) (M0 : mM) (T : aT) (k : Nat) (hk : k < 4) (hT : RmT M0 T) (hl : T.2.2.1.2.2.2.2.length ≤ 32) (hP : ∀ M' : mM, (∀ c, c ≠ 86 + k → M' c = M0 c) → (∀ j, j < tFull T → M' (86 + k) j = nI (tWin T j)) → P (some (.inl (nI (tFull T)))) M') :
    ∀ (n i : Nat) (M : mM), i + n = tFull T → (∀ c, c ≠ 86 + k → M c = M0 c) → (∀ j, j < i → M (86 + k) j = nI (tWin T j)) → mRun (mSx g) (f_X8_film g) P (29, [some (.inr (some 50)), some (.inl (nI k)), some (.inl (nI i))], [], M)
  | 0, i, M, h, h1, h2 => by
    have h8 : tFull T ≤ 8 := by unfold tFull; omega
    have e19 : M 50 19 = nI (tFull T) := (congrFun (h1 50 (by omega)) 19).trans hT.2.2.1.1
    obtain rfl : i = tFull T := by omega
    refine w_film_29 g M P _ _ ?_
    rw [e19]
    exact ⟨fun _ => hP M h1 h2, fun w => absurd (nI_le (Nat.le_refl _) (by omega)) w⟩
  | n + 1, i, M, h, h1, h2 => by
    have h8 : tFull T ≤ 8 := by unfold tFull; omega
    have e19 : M 50 19 = nI (tFull T) := (congrFun (h1 50 (by omega)) 19).trans hT.2.2.1.1
    have e62 : M 62 i = nI (tWin T i) := by
      rw [h1 62 (by omega), hT.2.2.1.2.2.2.2.2.2.1 i (by omega), if_pos (by have : i < tFull T := by omega
                                                                            exact this)]
      rfl
    refine w_film_29 g M P _ _ ?_
    rw [e19]
    refine ⟨fun w => absurd w (nI_ge (by omega) (by omega)), fun _ => rr_at (i := k) o_items (by decide) hk ⟨vp_in_nI (by omega) (by decide), ri_at o_items hk (show i < 40 by omega) (by decide) ?_⟩⟩
    rw [nI_clamp (by omega), nI_add, e62]
    intro M9
    refine filmM_loop g P M0 T k hk hT hl hP n (i + 1) M9 (by omega) (fun c hc => (mW1_c hc).trans (h1 c hc)) (fun j hj => ?_)
    show mW1 M (86 + k) i _ (86 + k) j = _
    by_cases e : j = i
    · rw [e, mW1_s]
    · rw [mW1_k e]
      exact h2 j (by omega)
theorem run_X8_film : mRunOf 3 t_X8_film f_X8_film := runM1 (by decide) (fun g M P z x hR hI hP => by
  have hl := hI.T.len
  refine w_film_0 g M P x ?_
  rw [fI3]
  refine ⟨mb_01, ?_⟩
  rcases ix_cs x (n := 4) (by decide) with ⟨hx, e1⟩ | ⟨k, hk, rfl, e1⟩
  · rw [show F_film z [x] = (-2, z) by simp only [F_film, e1]] at hP
    rw [e1, mb_no]
    exact ⟨fun h => absurd rfl h, fun _ => hP _ _ rfl hR FrM.refl⟩
  rw [show F_film z [nI k] = (nI (tFull (zT z.2.1)), zS z k (0, tFull (zT z.2.1), fun i => nI (tWin (zT z.2.1) i))) by simp only [F_film, e1]] at hP
  have v4 : vp_in (nI k) 4 := vp_in_nI hk (by decide)
  have e19 : M 50 19 = nI (tFull (zT z.2.1)) := hR.T.2.2.1.1
  rw [e1, mb_so, nI_clamp (by omega), e19]
  refine ⟨fun _ => ⟨v4, ?_⟩, fun h => absurd (by decide) h⟩
  intro M1
  refine ⟨v4, ?_⟩
  intro M2
  have f2 : ∀ c, c ≠ 83 → c ≠ 84 → M2 c = M c := fun c h1 h2 => (mW1_c h2 : M2 c = M1 c).trans (mW1_c h1)
  have hT2 : RmT M2 (zT z.2.1) := RmT_fr hR.T (fun k _ => congrFun (f2 50 (by decide) (by decide)) k) (fun c a b => f2 c (by omega) (by omega)) hl
  refine filmM_loop g P M2 (zT z.2.1) k hk hT2 hl (fun M' a1 a2 => ?_) (tFull (zT z.2.1)) 0 M2 (Nat.zero_add _) (fun _ _ => rfl) (fun j hj => absurd hj (Nat.not_lt_zero j))
  have hh := hR.sh (M' := M') (s := (0, tFull (zT z.2.1), fun i => nI (tWin (zT z.2.1) i))) hk ?_ ?_ a2 (fun c hc => (a1 c (by omega)).trans (f2 c (by omega) (by omega))) (fun q hq => ⟨?_, ?_⟩) (fun q h4 hq => (a1 (86 + q) (by omega)).trans (f2 (86 + q) (by omega) (by omega))) hl
  · exact hP _ _ rfl hh.1 hh.2
  · rw [a1 83 (by omega)]
    show mW1 (mW1 M 83 k _) 84 k _ 83 k = _
    rw [mW1_c (by decide), mW1_s]
    rfl
  · rw [a1 84 (by omega)]
    exact mW1_s
  · rw [a1 83 (by omega)]
    show mW1 (mW1 M 83 k _) 84 k _ 83 q = _
    rw [mW1_c (by decide), mW1_k hq]
  · rw [a1 84 (by omega)]
    show mW1 (mW1 M 83 k _) 84 k _ 84 q = _
    rw [mW1_k hq, mW1_c (by decide)])

theorem ok_X8_film : mOK yX8_film cX8_film 3 (some .int) 3 t_X8_film := mOK.of f_X8_film (by decide) (fun _ => rfl) (fun g => mCodeOK kk_X8_film) (fun g => mFldL fk_RX8 rfl) (fun g idx v h => by cases h) (fun g idx v h => by cases h) (mCalL (l := l_X8_film) (List.forall_mem_cons.mpr ⟨mSite.S (idx := 367) ok_X8_isSheet (by decide) (by decide) wc_X8_isSheet wk_RX8_367 wt_X8_isSheet wn_RX8 wd_X8_isSheet, fun _ h => absurd h List.not_mem_nil⟩) (fun _ => rfl)) run_X8_film

abbrev t_X8_copy : mG → mT := pubM 5 F_copy
theorem mo_X8_copy : mMn t_X8_copy := pubM_mono
theorem rv_X8_copy : mHasR yX8_copy 5 t_X8_copy := pubM_recv rfl
def k_X8_copy : List (Nat × mI) := [(0, .iload_n 1, 1, 1, 0, []),
  (1, .invokestatic 367, 3, 0, 0, []),
  (4, .ifCond .eq 10, 3, 14, 0, []),
  (7, .iload_n 3, 1, 3, 0, []),
  (8, .invokestatic 367, 3, 0, 0, []),
  (11, .ifCond .ne 6, 3, 17, 0, []),
  (14, .bipush (-2), 2, 0, -2, []),
  (16, .ireturn, 1, 0, 0, []),
  (17, .aload_n 0, 1, 0, 0, []),
  (18, .getfield 64, 3, 0, 0, []),
  (21, .iload_n 1, 1, 1, 0, []),
  (22, .iaload, 1, 0, 0, []),
  (23, .ifCond .lt 12, 3, 35, 0, []),
  (26, .aload_n 0, 1, 0, 0, []),
  (27, .getfield 64, 3, 0, 0, []),
  (30, .iload_n 3, 1, 3, 0, []),
  (31, .iaload, 1, 0, 0, []),
  (32, .ifCond .ge 6, 3, 38, 0, []),
  (35, .bipush (-11), 2, 0, -11, []),
  (37, .ireturn, 1, 0, 0, []),
  (38, .aload_n 0, 1, 0, 0, []),
  (39, .getfield 64, 3, 0, 0, []),
  (42, .iload_n 1, 1, 1, 0, []),
  (43, .iaload, 1, 0, 0, []),
  (44, .aload_n 0, 1, 0, 0, []),
  (45, .getfield 64, 3, 0, 0, []),
  (48, .iload_n 3, 1, 3, 0, []),
  (49, .iaload, 1, 0, 0, []),
  (50, .if_icmp .eq 6, 3, 56, 0, []),
  (53, .bipush (-13), 2, 0, -13, []),
  (55, .ireturn, 1, 0, 0, []),
  (56, .iload 5, 2, 5, 0, []),
  (58, .ifCond .lt 39, 3, 97, 0, []),
  (61, .iload_n 2, 1, 2, 0, []),
  (62, .ifCond .lt 35, 3, 97, 0, []),
  (65, .iload 4, 2, 4, 0, []),
  (67, .ifCond .lt 30, 3, 97, 0, []),
  (70, .iload_n 2, 1, 2, 0, []),
  (71, .aload_n 0, 1, 0, 0, []),
  (72, .getfield 67, 3, 0, 0, []),
  (75, .iload_n 1, 1, 1, 0, []),
  (76, .iaload, 1, 0, 0, []),
  (77, .iload 5, 2, 5, 0, []),
  (79, .isub, 1, 0, 0, []),
  (80, .if_icmp .gt 17, 3, 97, 0, []),
  (83, .iload 4, 2, 4, 0, []),
  (85, .aload_n 0, 1, 0, 0, []),
  (86, .getfield 67, 3, 0, 0, []),
  (89, .iload_n 3, 1, 3, 0, []),
  (90, .iaload, 1, 0, 0, []),
  (91, .iload 5, 2, 5, 0, []),
  (93, .isub, 1, 0, 0, []),
  (94, .if_icmp .le 6, 3, 100, 0, []),
  (97, .bipush (-12), 2, 0, -12, []),
  (99, .ireturn, 1, 0, 0, []),
  (100, .aload_n 0, 1, 0, 0, []),
  (101, .getfield 70, 3, 0, 0, []),
  (104, .iload_n 1, 1, 1, 0, []),
  (105, .aaload, 1, 1, 0, []),
  (106, .iload_n 2, 1, 2, 0, []),
  (107, .aload_n 0, 1, 0, 0, []),
  (108, .getfield 73, 3, 0, 0, []),
  (111, .iconst 0, 1, 0, nI 0, []),
  (112, .iload 5, 2, 5, 0, []),
  (114, .invokestatic 377, 3, 0, 0, []),
  (117, .aload_n 0, 1, 0, 0, []),
  (118, .getfield 73, 3, 0, 0, []),
  (121, .iconst 0, 1, 0, nI 0, []),
  (122, .aload_n 0, 1, 0, 0, []),
  (123, .getfield 70, 3, 0, 0, []),
  (126, .iload_n 3, 1, 3, 0, []),
  (127, .aaload, 1, 1, 0, []),
  (128, .iload 4, 2, 4, 0, []),
  (130, .iload 5, 2, 5, 0, []),
  (132, .invokestatic 377, 3, 0, 0, []),
  (135, .iload 5, 2, 5, 0, []),
  (137, .ireturn, 1, 0, 0, [])]
theorem kk_X8_copy : (k_X8_copy.all fun e => mChk cX8_copy e.1 e.2) = true := by decide +kernel
def l_X8_copy : List (Nat × Nat × (mG → mT)) := [(3 * 367 + 1, 1, t_X8_isSheet), (3 * 377 + 1, 5, tCopy)]
def f_X8_copy (g : mG) : mF := (mLk k_X8_copy, mLk fl_RX8, mLk (l_X8_copy.map fun e => (e.1, e.2.1, e.2.2 g)), mLk ([] : List (Nat × mV)), mLk ([] : List (Nat × mV)), some .int)
theorem m_X8_copy (g : mG) : mMono (f_X8_copy g) := mMonoL (g := g) (l := l_X8_copy) (List.forall_mem_cons.mpr ⟨mo_X8_isSheet, List.forall_mem_cons.mpr ⟨tCopy_mono, fun _ h => absurd h List.not_mem_nil⟩⟩) rfl

set_option maxRecDepth 100000 in
theorem w_copy_0 (g : mG) (M : mM) (P : mP) (x y u v w : Int32)
    (h : ((fIn x (nI 0) (nI 3)) = 0 ∨ (fIn x (nI 0) (nI 3)) = 1) ∧ (((fIn x (nI 0) (nI 3)) = 0 → P (some (.inl (-2))) M) ∧ (¬ ((fIn x (nI 0) (nI 3)) = 0) → ((fIn u (nI 0) (nI 3)) = 0 ∨ (fIn u (nI 0) (nI 3)) = 1) ∧ ((¬ (fIn u (nI 0) (nI 3)) = 0 → vp_in x 4 ∧ (((M 83 x.toNatClampNeg) < 0 → P (some (.inl (-11))) M) ∧ (¬ ((M 83 x.toNatClampNeg) < 0) → vp_in u 4 ∧ ((0 ≤ (M 83 u.toNatClampNeg) → vp_in x 4 ∧ (vp_in u 4 ∧ (((M 83 x.toNatClampNeg) = (M 83 u.toNatClampNeg) → (w < 0 → P (some (.inl (-12))) M) ∧ (¬ (w < 0) → (y < 0 → P (some (.inl (-12))) M) ∧ (¬ (y < 0) → (v < 0 → P (some (.inl (-12))) M) ∧ (¬ (v < 0) → vp_in x 4 ∧ ((((M 84 x.toNatClampNeg) - w) < y → P (some (.inl (-12))) M) ∧ (¬ (((M 84 x.toNatClampNeg) - w) < y) → vp_in u 4 ∧ ((v ≤ ((M 84 u.toNatClampNeg) - w) → mRun (mSx g) (f_X8_copy g) P (100, [some (.inr (some 50)), some (.inl x), some (.inl y), some (.inl u), some (.inl v), some (.inl w)], [], M)) ∧ (¬ (v ≤ ((M 84 u.toNatClampNeg) - w)) → P (some (.inl (-12))) M)))))))) ∧ (¬ ((M 83 x.toNatClampNeg) = (M 83 u.toNatClampNeg)) → P (some (.inl (-13))) M)))) ∧ (¬ (0 ≤ (M 83 u.toNatClampNeg)) → P (some (.inl (-11))) M))))) ∧ (¬ (¬ (fIn u (nI 0) (nI 3)) = 0) → P (some (.inl (-2))) M))))) :
    mRun (mSx g) (f_X8_copy g) P (0, [some (.inr (some 50)), some (.inl x), some (.inl y), some (.inl u), some (.inl v), some (.inl w)], [], M) := mRun.vc (m_X8_copy g) [100] 49 h

theorem w_copy_100 (g : mG) (M : mM) (P : mP) (x y u v w : Int32)
    (h : ∃ (n1 k2 c3 : Nat) (rs4 : List (Option Nat)), (mSx g)[85]? = some (1, n1, rs4) ∧ x = nI k2 ∧ k2 < n1 ∧ n1 < 2 ^ 31 ∧ rs4[k2]? = some (some c3) ∧ (∃ n5 n6 : Nat, (∃ ra, (mSx g)[c3]? = some (0, n5, ra)) ∧ (∃ rb, (mSx g)[90]? = some (0, n6, rb)) ∧ ¬ y < 0 ∧ ¬ (nI 0) < 0 ∧ ¬ w < 0 ∧ y.toNatClampNeg + w.toNatClampNeg ≤ n5 ∧ (nI 0).toNatClampNeg + w.toNatClampNeg ≤ n6 ∧ (let M9 : mM := mUp M 90 (va_cpy (M c3) (M 90) y.toNatClampNeg (nI 0).toNatClampNeg w.toNatClampNeg); ∃ (n10 k11 c12 : Nat) (rs13 : List (Option Nat)), (mSx g)[85]? = some (1, n10, rs13) ∧ u = nI k11 ∧ k11 < n10 ∧ n10 < 2 ^ 31 ∧ rs13[k11]? = some (some c12) ∧ (∃ n14 n15 : Nat, (∃ ra, (mSx g)[90]? = some (0, n14, ra)) ∧ (∃ rb, (mSx g)[c12]? = some (0, n15, rb)) ∧ ¬ (nI 0) < 0 ∧ ¬ v < 0 ∧ ¬ w < 0 ∧ (nI 0).toNatClampNeg + w.toNatClampNeg ≤ n14 ∧ v.toNatClampNeg + w.toNatClampNeg ≤ n15 ∧ (let M18 : mM := mUp M9 c12 (va_cpy (M9 90) (M9 c12) (nI 0).toNatClampNeg v.toNatClampNeg w.toNatClampNeg); P (some (.inl w)) M18))))) :
    mRun (mSx g) (f_X8_copy g) P (100, [some (.inr (some 50)), some (.inl x), some (.inl y), some (.inl u), some (.inl v), some (.inl w)], [], M) := mRun.vc (m_X8_copy g) [] 22 h

theorem F_copy_at {z : aZ} {k q : Nat} {i j n : Int32} (hk : k < 4) (hq : q < 4) : F_copy z [nI k, i, nI q, j, n] = if (z.2.2.2 k).1 = -1 ∨ (z.2.2.2 q).1 = -1 then (-11, z) else if ¬ (z.2.2.2 k).1 = (z.2.2.2 q).1 then (-13, z) else if dHld (z.2.2.2 k).2.1 i n = true ∧ dHld (z.2.2.2 q).2.1 j n = true then (n, zS z q ((z.2.2.2 q).1, (z.2.2.2 q).2.1, va_cpy (z.2.2.2 k).2.2 (z.2.2.2 q).2.2 (ub i) (ub j) (ub n))) else (-12, z) := by
  simp only [F_copy, ix_at hk (show 4 < 2 ^ 31 by decide), ix_at hq (show 4 < 2 ^ 31 by decide)]
theorem dHld_iff {sz : Nat} {i n : Int32} : dHld sz i n = true ↔ 0 ≤ i ∧ 0 ≤ n ∧ n ≤ nI sz ∧ i ≤ nI sz - n := decide_eq_true_iff
/-- what the reference asks says the same -/
theorem dHld_r {sz : Nat} {i n : Int32} (hz : sz ≤ 40) (h1 : ¬ n < 0) (h2 : ¬ i < 0) : dHld sz i n = true ↔ i ≤ nI sz - n := by
  rw [dHld_iff]
  refine ⟨fun h => h.2.2.2, fun h => ⟨Int32.not_lt.mp h2, Int32.not_lt.mp h1, ?_, h⟩⟩
  have e : (nI sz - n).toInt = sz - n.toInt := by
    rw [Int32.toInt_sub, nI_toInt (by omega)]
    have a1 : n.toInt ≤ 2147483647 := Int32.toInt_le n
    simp only [fa_lt, Int32.toInt_zero] at h1
    exact Int.bmod_eq_of_le (by omega) (by omega)
  simp only [fa_le, e] at h ⊢
  simp only [fa_lt, Int32.toInt_zero] at h2
  rw [nI_toInt (by omega)]
  omega
theorem run_X8_copy : mRunOf 6 t_X8_copy f_X8_copy := runM5 (by decide) (fun g M P z x y u v w hR hI hP => by
  refine w_copy_0 g M P x y u v w ?_
  rw [fI3, fI3]
  refine ⟨mb_01, ?_⟩
  rcases ix_cs x (n := 4) (by decide) with ⟨hx, e1⟩ | ⟨k, hk, rfl, e1⟩
  · rw [show F_copy z [x, y, u, v, w] = (-2, z) by simp only [F_copy, e1]] at hP
    rw [e1, mb_no]
    exact ⟨fun _ => hP _ _ rfl hR FrM.refl, fun h => absurd rfl h⟩
  rw [e1, mb_so]
  refine ⟨fun h => absurd h (by decide), fun _ => ⟨mb_01, ?_⟩⟩
  rcases ix_cs u (n := 4) (by decide) with ⟨hx, e2⟩ | ⟨q, hq, rfl, e2⟩
  · rw [show F_copy z [nI k, y, u, v, w] = (-2, z) by simp only [F_copy, e1, e2]] at hP
    rw [e2, mb_no]
    exact ⟨fun h => absurd rfl h, fun _ => hP _ _ rfl hR FrM.refl⟩
  rw [F_copy_at hk hq] at hP
  obtain ⟨a1, a2, a3⟩ := hR.2.2.2.2 k hk
  obtain ⟨b1, b2, b3⟩ := hR.2.2.2.2 q hq
  have hsk := hI.2.2.2 k hk
  have hsq := hI.2.2.2 q hq
  have vk : vp_in (nI k) 4 := vp_in_nI hk (by decide)
  have vq : vp_in (nI q) 4 := vp_in_nI hq (by decide)
  rw [e2, mb_so, nI_clamp (by omega), nI_clamp (by omega), a1, a2, b1, b2, (sh_there hsk).2, (sh_there hsq).1]
  refine ⟨fun _ => ⟨vk, fun h1 => ?_, fun h1 => ⟨vq, fun h2 => ⟨vk, vq, fun h3 => ?_, fun h3 => ?_⟩, fun h2 => ?_⟩⟩, fun h => absurd (by decide) h⟩
  · rw [if_pos (Or.inl h1)] at hP
    exact hP _ _ rfl hR FrM.refl
  · rw [if_neg (fun z => z.elim h1 h2), if_neg (fun z => z h3)] at hP
    have no : ¬ (dHld (z.2.2.2 k).2.1 y w = true ∧ dHld (z.2.2.2 q).2.1 v w = true) → P (some (.inl (-12))) M := fun h => by
      rw [if_neg h] at hP
      exact hP _ _ rfl hR FrM.refl
    refine ⟨fun h4 => no (fun z => absurd h4 (Int32.not_lt.mpr (dHld_iff.mp z.1).2.1)), fun h4 => ⟨fun h5 => no (fun z => absurd h5 (Int32.not_lt.mpr (dHld_iff.mp z.1).1)), fun h5 => ⟨fun h6 => no (fun z => absurd h6 (Int32.not_lt.mpr (dHld_iff.mp z.2).1)), fun h6 => ⟨vk, fun h7 => no (fun z => absurd h7 (Int32.not_lt.mpr (dHld_iff.mp z.1).2.2.2)), fun h7 => ⟨vq, fun h8 => ?_, fun h8 => no (fun z => h8 (dHld_iff.mp z.2).2.2.2)⟩⟩⟩⟩⟩
    have hd1 := (dHld_r hsk.2.1 h4 h5).mpr (Int32.not_lt.mp h7)
    have hd2 := (dHld_r hsq.2.1 h4 h6).mpr h8
    rw [if_pos ⟨hd1, hd2⟩] at hP
    obtain ⟨i, n, rfl, rfl, hin⟩ := dHld_t hsk.2.1 hd1
    obtain ⟨j, n2, rfl, hn2, hjn⟩ := dHld_t hsq.2.1 hd2
    have hsk40 := hsk.2.1
    have hsq40 := hsq.2.1
    have hnn : n = n2 := by
      have := congrArg ub hn2
      rw [ub_nI (by omega), ub_nI (by omega)] at this
      exact this
    subst hnn
    have ci : (nI i).toNatClampNeg = i := nI_clamp (by omega)
    have cj : (nI j).toNatClampNeg = j := nI_clamp (by omega)
    have cn : (nI n).toNatClampNeg = n := nI_clamp (by omega)
    have c0 : (nI 0).toNatClampNeg = 0 := rfl
    rw [ub_nI (by omega), ub_nI (by omega), ub_nI (by omega)] at hP
    refine w_copy_100 g M P _ _ _ _ _ ?_
    rw [ci, cj, cn, c0]
    refine rr_at (i := k) o_items (by decide) hk ⟨40, 40, ⟨_, mSx_at (out2_at o_items hk)⟩, ⟨_, mSx_at rfl⟩, nI_pos (by omega), by decide, nI_pos (by omega), by omega, by omega, ?_⟩
    intro M19
    have f19 : ∀ c, c ≠ 90 → M19 c = M c := fun c hc => mUp_ne hc
    have g19 : M19 90 = va_cpy (M (86 + k)) (M 90) i 0 n := mUp_at
    clear_value M19
    refine rr_at (i := q) o_items (by decide) hq ⟨40, 40, ⟨_, mSx_at rfl⟩, ⟨_, mSx_at (out2_at o_items hq)⟩, by decide, nI_pos (by omega), nI_pos (by omega), by omega, by omega, ?_⟩
    intro M28
    have f28 : ∀ c, c ≠ 86 + q → c ≠ 90 → M28 c = M c := fun c h1 h2 => (mUp_ne h1 : M28 c = M19 c).trans (f19 c h2)
    have g28 : M28 (86 + q) = va_cpy (M19 90) (M19 (86 + q)) 0 j n := mUp_at
    clear_value M28
    have hh := hR.sh (M' := M28) (s := ((z.2.2.2 q).1, (z.2.2.2 q).2.1, va_cpy (z.2.2.2 k).2.2 (z.2.2.2 q).2.2 i j n)) hq ?_ ?_ (fun l hl => ?_) (fun c hc => f28 c (by omega) (by omega)) (fun r hr => ⟨congrFun (f28 83 (by omega) (by decide)) r, congrFun (f28 84 (by omega) (by decide)) r⟩) (fun r h4 hr => f28 (86 + r) (by omega) (by omega)) hI.T.len
    · exact hP _ _ rfl hh.1 hh.2
    · exact (congrFun (f28 83 (by omega) (by decide)) q).trans b1
    · exact (congrFun (f28 84 (by omega) (by decide)) q).trans b2
    · have hl' : l < (z.2.2.2 q).2.1 := hl
      show _ = va_cpy (z.2.2.2 k).2.2 (z.2.2.2 q).2.2 i j n l
      rw [g28, g19, f19 (86 + q) (by omega)]
      by_cases hin2 : j ≤ l ∧ l < j + n
      · rw [pk_cpy_in hin2.1 hin2.2, pk_cpy_in (Nat.zero_le _) (by omega), pk_cpy_in hin2.1 hin2.2, show i + (0 + (l - j) - 0) = i + (l - j) by omega]
        exact a3 _ (by omega)
      · unfold va_cpy
        rw [if_neg hin2, if_neg hin2]
        exact b3 l hl'
  · rw [if_neg (fun z => z.elim h1 h2), if_pos h3] at hP
    exact hP _ _ rfl hR FrM.refl
  · rw [if_pos (Or.inr (Classical.not_not.mp h2))] at hP
    exact hP _ _ rfl hR FrM.refl)

theorem ok_X8_copy : mOK yX8_copy cX8_copy 6 (some .int) 3 t_X8_copy := mOK.of f_X8_copy (by decide) (fun _ => rfl) (fun g => mCodeOK kk_X8_copy) (fun g => mFldL fk_RX8 rfl) (fun g idx v h => by cases h) (fun g idx v h => by cases h) (mCalL (l := l_X8_copy) (List.forall_mem_cons.mpr ⟨mSite.S (idx := 367) ok_X8_isSheet (by decide) (by decide) wc_X8_isSheet wk_RX8_367 wt_X8_isSheet wn_RX8 wd_X8_isSheet, List.forall_mem_cons.mpr ⟨mSite.copy (idx := 377) (by decide) (mIn 1501 (by decide +kernel) rfl) wnat_copy wst_copy wn_RJ10, fun _ h => absurd h List.not_mem_nil⟩⟩) (fun _ => rfl)) run_X8_copy

