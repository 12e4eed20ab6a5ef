/-! ===== CLASS TrickHouse: sheets ===== -/
theorem bt_lsb (x : Int32) (i : Nat) : bt x i = x.toBitVec.getLsbD i := rfl
theorem bt_byte {v : Int32} {i : Nat} (h : i < 8) : bt v.toInt8.toInt32 i = bt v i := by
  rw [bt_lsb, bt_lsb, Int8.toBitVec_toInt32, Int32.toBitVec_toInt8, BitVec.getLsbD_signExtend, BitVec.getLsbD_signExtend]
  simp [h, show i < 32 by omega]
theorem bt_255 : ∀ i, i < 32 → bt (nI 255) i = decide (i < 8) := by decide +kernel
theorem byte_and (v : Int32) : v.toInt8.toInt32 &&& nI 255 = v &&& nI 255 := bt_ext (fun i hi => by
  rw [bt_and, bt_and, bt_255 i hi]
  by_cases h : i < 8
  · rw [bt_byte h]
  · rw [decide_eq_false h, Bool.and_false, Bool.and_false])
theorem byte_rng (v : Int32) : -128 ≤ v.toInt8.toInt32.toInt ∧ v.toInt8.toInt32.toInt ≤ 127 := by
  rw [Int8.toInt_toInt32]
  have h1 := Int8.le_toInt v.toInt8
  have h2 := Int8.toInt_lt v.toInt8
  omega
theorem and_lo : ∀ n, n < 128 → nI n &&& nI 255 = nI n := by decide +kernel
theorem and_hi : ∀ n, n < 128 → (-(nI (n + 1))) &&& nI 255 = nI (255 - n) := by decide +kernel
theorem neg_toInt : ∀ n, n < 128 → (-(nI (n + 1))).toInt = -((n : Int) + 1) := by decide +kernel
theorem shC_w {s v : Int32} {w : Nat} (hs : s = 0 → -128 ≤ v.toInt ∧ v.toInt ≤ 127) (hw : w < 128) : shC s v = nI w ↔ v = nI w := by
  unfold shC
  by_cases h : s = 0
  · rw [if_pos h]
    obtain ⟨h1, h2⟩ := hs h
    by_cases hv : 0 ≤ v.toInt
    · obtain ⟨n, hn, rfl⟩ : ∃ n : Nat, n < 128 ∧ v = nI n := ⟨v.toInt.toNat, by omega, by rw [fa_eq, nI_toInt (by omega)]; omega⟩
      rw [and_lo n hn]
    · obtain ⟨n, hn, rfl⟩ : ∃ n : Nat, n < 128 ∧ v = -(nI (n + 1)) := ⟨(-v.toInt - 1).toNat, by omega, by rw [fa_eq, neg_toInt _ (by omega)]; omega⟩
      rw [and_hi n hn, nI_eq (by omega) (by omega)]
      constructor
      · intro e
        omega
      · intro e
        rw [fa_eq, neg_toInt n hn, nI_toInt (by omega)] at e
        omega
  · rw [if_neg h]
/-- the sheet at a number, as a reference -/
def shR (x : Int32) : Option Nat := (ix x 4).map fun j => 40 + 2 * j
theorem shR_no {x : Int32} (h : ix x 4 = none) : shR x = none := by
  unfold shR
  rw [h]
  rfl
theorem shR_at {j : Nat} (h : j < 4) : shR (nI j) = some (40 + 2 * j) := by
  unfold shR
  rw [ix_at h (by decide)]
  rfl
def t_X7_sheetAt : mG → mT := fun _ as M P => match as with
  | [.inr (some 0), .inl x] => P (some (.inr (shR x))) M
  | _ => False
theorem mo_X7_sheetAt : mMn t_X7_sheetAt := fun _ _ _ _ _ h k => by
  unfold t_X7_sheetAt at k ⊢
  split at k
  · exact h _ _ k
  · exact k
theorem rv_X7_sheetAt : mHasR yX7_sheetAt 1 t_X7_sheetAt := by
  intro g as M P hT hl
  unfold t_X7_sheetAt at hT
  split at hT
  · exact ⟨_, _, rfl, is_X7 g _ rfl⟩
  · exact hT.elim
def k_X7_sheetAt : List (Nat × mI) := [(0, .iload_n 1, 1, 1, 0, []),
  (1, .ifCond .lt 21, 3, 22, 0, []),
  (4, .iload_n 1, 1, 1, 0, []),
  (5, .aload_n 0, 1, 0, 0, []),
  (6, .getfield 38, 3, 0, 0, []),
  (9, .arraylength, 1, 0, 0, []),
  (10, .if_icmp .ge 12, 3, 22, 0, []),
  (13, .aload_n 0, 1, 0, 0, []),
  (14, .getfield 38, 3, 0, 0, []),
  (17, .iload_n 1, 1, 1, 0, []),
  (18, .aaload, 1, 0, 0, []),
  (19, .goto 4, 3, 23, 0, []),
  (22, .aconst_null, 1, 0, 0, []),
  (23, .areturn, 1, 0, 0, [])]
theorem kk_X7_sheetAt : (k_X7_sheetAt.all fun e => mChk cX7_sheetAt e.1 e.2) = true := by decide +kernel
def l_X7_sheetAt : List (Nat × Nat × (mG → mT)) := []
def f_X7_sheetAt (g : mG) : mF := (mLk k_X7_sheetAt, mLk fl_RX7, mLk (l_X7_sheetAt.map fun e => (e.1, e.2.1, e.2.2 g)), mLk ([] : List (Nat × mV)), mLk ([] : List (Nat × mV)), some (.object "TrickHouse$Sheet"))
theorem m_X7_sheetAt (g : mG) : mMono (f_X7_sheetAt g) := mMonoL (g := g) (l := l_X7_sheetAt) (fun _ h => absurd h List.not_mem_nil) rfl

theorem v_sheetAt (g : mG) (M : mM) (P : mP) (x : Int32)
    (h : (x < 0 → P (some (.inr none)) M) ∧ (¬ (x < 0) → ((nI 4) ≤ x → P (some (.inr none)) M) ∧ (¬ ((nI 4) ≤ x) → vp_in x 4 ∧ (P (some (.inr ((([some 40, some 42, some 44, some 46] : List (Option Nat))[x.toNatClampNeg]?).getD none))) M)))) :
    mRun (mSx g) (f_X7_sheetAt g) P (0, [some (.inr (some 0)), some (.inl x)], [], M) := mRun.vc (m_X7_sheetAt g) [] 13 h

theorem run_X7_sheetAt : mRunOf 2 t_X7_sheetAt f_X7_sheetAt := fun g as M P hT => by
  unfold t_X7_sheetAt at hT
  split at hT
  · rename_i x
    refine ⟨Nat.le_of_ble_eq_true rfl, v_sheetAt g M P x ?_⟩
    rcases ix_cs x (n := 4) (by decide) with ⟨hx, e1⟩ | ⟨j, hj, rfl, e1⟩
    · rw [shR_no e1] at hT
      exact ⟨fun _ => hT, fun h1 => ⟨fun _ => hT, fun h2 => absurd (hx.resolve_left h1) h2⟩⟩
    · rw [shR_at hj] at hT
      refine ⟨fun h => absurd h (nI_pos (by omega)), fun _ => ⟨fun h => absurd h (nI_ge hj (by decide)), fun _ => ⟨vp_in_nI hj (by decide), ?_⟩⟩⟩
      rw [nI_clamp (by omega)]
      rcases (by omega : j = 0 ∨ j = 1 ∨ j = 2 ∨ j = 3) with rfl | rfl | rfl | rfl <;> exact hT
  · exact hT.elim
theorem ok_X7_sheetAt : mOK yX7_sheetAt cX7_sheetAt 2 (some (.object "TrickHouse$Sheet")) 1 t_X7_sheetAt := mOK.of f_X7_sheetAt (by decide) (fun _ => rfl) (fun g => mCodeOK kk_X7_sheetAt) (fun g => mFldL fk_RX7 rfl) (fun g idx v h => by cases h) (fun g idx v h => by cases h) (mCalL (l := l_X7_sheetAt) (fun _ h => absurd h List.not_mem_nil) (fun _ => rfl)) run_X7_sheetAt

def zS (z : aZ) (k : Nat) (s : aSheet) : aZ := (z.1, z.2.1, z.2.2.1, fun j => if j = k then s else z.2.2.2 j)
/-- one sheet has changed -/
theorem RpC_sheet {M M' : mM} {z : aZ} {k : Nat} {s : aSheet} (h : RpC M z) (hk : k < 4) (hs : RpSh1 M' k s) (e : ∀ c, c ≠ 40 + 2 * k → c ≠ 41 + 2 * k → M' c = M c) : RpC M' (zS z k s) := by
  obtain ⟨h1, h2, h3, h4, h5, h6⟩ := h
  refine ⟨?_, RpL_fr h2 (fun j hj => e _ (by omega) (by omega)), ⟨?_, fun l hl => RpL_fr (h3.2 l hl) (fun j hj => e _ (by omega) (by omega))⟩, RpT_fr h4 (fun j hj => e _ (by omega) (by omega)), fun j hj => ?_, ?_⟩
  · unfold RpTp
    rw [e 1 (by omega) (by omega), e 2 (by omega) (by omega)]
    exact h1
  · rw [e 0 (by omega) (by omega)]
    exact h3.1
  · show RpSh1 M' j (if j = k then s else z.2.2.2 j)
    by_cases q : j = k
    · rw [if_pos q, q]
      exact hs
    · rw [if_neg q]
      have := h5 j hj
      unfold RpSh1 at this ⊢
      rw [e (40 + 2 * j) (by omega) (by omega), e (41 + 2 * j) (by omega) (by omega)]
      exact this
  · unfold RpLn
    rw [e 48 (by omega) (by omega)]
    exact h6
def k_X4_become : List (Nat × mI) := [(0, .aload_n 0, 1, 0, 0, []),
  (1, .iload_n 1, 1, 1, 0, []),
  (2, .putfield 15, 3, 0, 0, []),
  (5, .aload_n 0, 1, 0, 0, []),
  (6, .iload_n 2, 1, 2, 0, []),
  (7, .putfield 19, 3, 0, 0, []),
  (10, .aload_n 0, 1, 0, 0, []),
  (11, .getfield 9, 3, 0, 0, []),
  (14, .iconst 0, 1, 0, nI 0, []),
  (15, .invokestatic 22, 3, 0, 0, []),
  (18, .return_, 1, 0, 0, [])]
theorem kk_X4_become : (k_X4_become.all fun e => mChk cX4_become e.1 e.2) = true := by decide +kernel
def l_X4_become : List (Nat × Nat × (mG → mT)) := [(3 * 22 + 1, 2, t_X7_fill)]
def f_X4_become (g : mG) : mF := (mLk k_X4_become, mLk fl_RX4, mLk (l_X4_become.map fun e => (e.1, e.2.1, e.2.2 g)), mLk ([] : List (Nat × mV)), mLk ([] : List (Nat × mV)), none)
theorem m_X4_become (g : mG) : mMono (f_X4_become g) := mMonoL (g := g) (l := l_X4_become) (List.forall_mem_cons.mpr ⟨mo_X7_fill, fun _ h => absurd h List.not_mem_nil⟩) rfl
def t_X4_become : mG → mT := mIV pl_X4 f_X4_become 3 12
theorem mo_X4_become : mMn t_X4_become := mIV_mono m_X4_become
theorem rv_X4_become : mHasR yX4_become 2 t_X4_become := mIV_recv is_X4
theorem ok_X4_become : mOK yX4_become cX4_become 3 (none) 2 t_X4_become := mOK.of f_X4_become (by decide) (fun _ => rfl) (fun g => mCodeOK kk_X4_become) (fun g => mFldL fk_RX4 rfl) (fun g idx v h => by cases h) (fun g idx v h => by cases h) (mCalL (l := l_X4_become) (List.forall_mem_cons.mpr ⟨mSite.SN (idx := 22) ok_X7_fill (by decide) (by decide) wc_X7_fill wm_RX4_22 wt_X7_fill wn_RX7 wd_X7_fill, fun _ h => absurd h List.not_mem_nil⟩) (fun _ => rfl)) (mIV_run m_X4_become)

def F_sheet (z : aZ) (as : List Int32) : Int32 × aZ := match as with
  | [s, t, n] => match ix s 4 with
    | none => (-2, z)
    | some k => if t = -1 then (1, zS z k (-1, 0, fun _ => 0)) else match ix t 2 with
      | none => (-2, z)
      | some _ => if nI 40 < n then (-2, z) else if n < 0 then (-14, z) else (1, zS z k (t, ub n, fun _ => 0))
  | _ => (0, z)
theorem shC_0 (t : Int32) : shC t 0 = 0 := by
  unfold shC
  split <;> rfl
abbrev t_X7_sheet : mG → mT := pub 3 F_sheet
theorem mo_X7_sheet : mMn t_X7_sheet := pub_mono
theorem rv_X7_sheet : mHasR yX7_sheet 3 t_X7_sheet := pub_recv rfl
def k_X7_sheet : List (Nat × mI) := [(0, .aload_n 0, 1, 0, 0, []),
  (1, .iload_n 1, 1, 1, 0, []),
  (2, .invokevirtual 246, 3, 0, 0, []),
  (5, .astore 4, 2, 4, 0, []),
  (7, .aload 4, 2, 4, 0, []),
  (9, .ifnull 13, 3, 22, 0, []),
  (12, .iload_n 2, 1, 2, 0, []),
  (13, .iconst (-1), 1, 0, -1, []),
  (14, .if_icmp .lt 8, 3, 22, 0, []),
  (17, .iload_n 2, 1, 2, 0, []),
  (18, .iconst 1, 1, 0, nI 1, []),
  (19, .if_icmp .le 6, 3, 25, 0, []),
  (22, .bipush (-2), 2, 0, -2, []),
  (24, .ireturn, 1, 0, 0, []),
  (25, .iload_n 2, 1, 2, 0, []),
  (26, .iconst (-1), 1, 0, -1, []),
  (27, .if_icmp .ne 12, 3, 39, 0, []),
  (30, .aload 4, 2, 4, 0, []),
  (32, .iconst (-1), 1, 0, -1, []),
  (33, .iconst 0, 1, 0, nI 0, []),
  (34, .invokevirtual 264, 3, 0, 0, []),
  (37, .iconst 1, 1, 0, nI 1, []),
  (38, .ireturn, 1, 0, 0, []),
  (39, .iload_n 3, 1, 3, 0, []),
  (40, .bipush 40, 2, 0, nI 40, []),
  (42, .if_icmp .le 6, 3, 48, 0, []),
  (45, .bipush (-2), 2, 0, -2, []),
  (47, .ireturn, 1, 0, 0, []),
  (48, .iload_n 3, 1, 3, 0, []),
  (49, .ifCond .ge 6, 3, 55, 0, []),
  (52, .bipush (-14), 2, 0, -14, []),
  (54, .ireturn, 1, 0, 0, []),
  (55, .aload 4, 2, 4, 0, []),
  (57, .iload_n 2, 1, 2, 0, []),
  (58, .iload_n 3, 1, 3, 0, []),
  (59, .invokevirtual 264, 3, 0, 0, []),
  (62, .iconst 1, 1, 0, nI 1, []),
  (63, .ireturn, 1, 0, 0, [])]
theorem kk_X7_sheet : (k_X7_sheet.all fun e => mChk cX7_sheet e.1 e.2) = true := by decide +kernel
def l_X7_sheet : List (Nat × Nat × (mG → mT)) := [(3 * 246, 1 + 1, t_X7_sheetAt), (3 * 264, 2 + 1, t_X4_become)]
def f_X7_sheet (g : mG) : mF := (mLk k_X7_sheet, mLk fl_RX7, mLk (l_X7_sheet.map fun e => (e.1, e.2.1, e.2.2 g)), mLk ([] : List (Nat × mV)), mLk ([] : List (Nat × mV)), some .int)
theorem m_X7_sheet (g : mG) : mMono (f_X7_sheet g) := mMonoL (g := g) (l := l_X7_sheet) (List.forall_mem_cons.mpr ⟨mo_X7_sheetAt, List.forall_mem_cons.mpr ⟨mo_X4_become, fun _ h => absurd h List.not_mem_nil⟩⟩) rfl

theorem v_sheet_0 (g : mG) (M : mM) (P : mP) (x y u : Int32)
    (h : mRun (mSx g) (f_X7_sheet g) P (5, [some (.inr (some 0)), some (.inl x), some (.inl y), some (.inl u), none], [.inr (shR x)], M)) :
    mRun (mSx g) (f_X7_sheet g) P (0, [some (.inr (some 0)), some (.inl x), some (.inl y), some (.inl u), none], [], M) := mRun.vc (m_X7_sheet g) [5] 4 h

theorem v_sheet_N (g : mG) (M : mM) (P : mP) (x y u : Int32)
    (h : P (some (.inl (-2))) M) :
    mRun (mSx g) (f_X7_sheet g) P (5, [some (.inr (some 0)), some (.inl x), some (.inl y), some (.inl u), none], [.inr none], M) := mRun.vc (m_X7_sheet g) [] 5 h

theorem v_sheet_40 (g : mG) (M : mM) (P : mP) (x y u : Int32)
    (h : (y < (-1) → P (some (.inl (-2))) M) ∧ (¬ (y < (-1)) → (y ≤ (nI 1) → (¬ y = (-1) → (u ≤ (nI 40) → (0 ≤ u → let M6 : mM := mW1 M 40 1 y; let M7 : mM := mW1 M6 40 2 u; let M8 : mM := mUp M7 41 (aFill (M 41) 40 (nI 0)); P (some (.inl (nI 1))) M8) ∧ (¬ (0 ≤ u) → P (some (.inl (-14))) M)) ∧ (¬ (u ≤ (nI 40)) → P (some (.inl (-2))) M)) ∧ (¬ (¬ y = (-1)) → let M9 : mM := mW1 M 40 1 (-1); let M10 : mM := mW1 M9 40 2 (nI 0); let M11 : mM := mUp M10 41 (aFill (M 41) 40 (nI 0)); P (some (.inl (nI 1))) M11)) ∧ (¬ (y ≤ (nI 1)) → P (some (.inl (-2))) M))) :
    mRun (mSx g) (f_X7_sheet g) P (5, [some (.inr (some 0)), some (.inl x), some (.inl y), some (.inl u), none], [.inr (some 40)], M) := mRun.vc (m_X7_sheet g) [] 23 h

theorem sheet_run_40 (g : mG) (M : mM) (P : mP) (z : aZ) (y u : Int32) (hR : RpC M z) (hP : pubP M P (F_sheet z [nI 0, y, u])) :
    mRun (mSx g) (f_X7_sheet g) P (5, [some (.inr (some 0)), some (.inl (nI 0)), some (.inl y), some (.inl u), none], [.inr (some 40)], M) := by
  have e1 : ix (nI 0) 4 = some 0 := ix_at (by decide) (by decide)
  have put : ∀ (t : Int32) (n : Nat) (v : Int32 × aZ), n ≤ 40 → v = (1, zS z 0 (t, n, fun _ => 0)) → pubP M P v → P (some (.inl (nI 1))) (mUp (mW1 (mW1 M 40 1 t) 40 2 (nI n)) 41 (aFill (M 41) 40 (nI 0))) := fun t n v hn hv hp => by
    subst hv
    refine hp _ _ rfl (RpC_sheet hR (by decide) ⟨?_, ?_, fun j hj => ?_⟩ (fun d h1 h2 => ?_)) (fun d h1 => ?_)
    · show mUp (mW1 (mW1 M 40 1 t) 40 2 (nI n)) 41 _ 40 1 = t
      rw [mUp_ne (by decide), mW1_k (by decide), mW1_s]
    · show mUp (mW1 (mW1 M 40 1 t) 40 2 (nI n)) 41 _ 40 2 = nI n
      rw [mUp_ne (by decide), mW1_s]
    · show mUp (mW1 (mW1 M 40 1 t) 40 2 (nI n)) 41 _ 41 j = shC t 0
      rw [mUp_at, shC_0]
      have hj' : j < n := hj
      exact if_pos (by omega)
    · show mUp (mW1 (mW1 M 40 1 t) 40 2 (nI n)) 41 _ d = M d
      have h1' : d ≠ 40 := h1
      have h2' : d ≠ 41 := h2
      rw [mUp_ne h2', mW1_c h1', mW1_c h1']
    · show mUp (mW1 (mW1 M 40 1 t) 40 2 (nI n)) 41 _ d = M d
      rw [mUp_ne (by omega), mW1_c (by omega), mW1_c (by omega)]
  refine v_sheet_40 g M P _ _ _ ?_
  by_cases ym : y = -1
  · subst ym
    have hc : F_sheet z [nI 0, -1, u] = (1, zS z 0 (-1, 0, fun _ => 0)) := by
      simp only [F_sheet, e1]
      rfl
    rw [hc] at hP
    refine ⟨fun h => absurd h (by decide), fun _ => ⟨fun _ => ⟨fun h => absurd rfl h, fun _ => put (-1) 0 _ (by decide) rfl hP⟩, fun h => absurd (by decide) h⟩⟩
  rcases ix_cs y (n := 2) (by decide) with ⟨hy, e2⟩ | ⟨t, ht, rfl, e2⟩
  · have hc : F_sheet z [nI 0, y, u] = (-2, z) := by
      simp only [F_sheet, e1, e2]
      rw [if_neg ym]
    rw [hc] at hP
    refine ⟨fun _ => hP _ _ rfl hR FrC.refl, fun w1 => ⟨fun w2 => ?_, fun _ => hP _ _ rfl hR FrC.refl⟩⟩
    exfalso
    rw [fa_eq, toInt_m1] at ym
    simp (disch := omega) only [fa_lt, fa_le, nI_toInt, Int32.toInt_zero, toInt_m1] at hy w1 w2
    omega
  have hn : ¬ nI t = -1 := ym
  have hc : F_sheet z [nI 0, nI t, u] = if nI 40 < u then (-2, z) else if u < 0 then (-14, z) else (1, zS z 0 (nI t, ub u, fun _ => 0)) := by
    simp only [F_sheet, e1, e2]
    rw [if_neg ym]
  rw [hc] at hP
  refine ⟨fun w => ?_, fun _ => ⟨fun _ => ⟨fun _ => ⟨fun w3 => ⟨fun w4 => ?_, fun w4 => ?_⟩, fun w3 => ?_⟩, fun h => absurd hn h⟩, fun w => absurd (nI_le (by omega) (by decide)) w⟩⟩
  · exfalso
    simp (disch := omega) only [fa_lt, nI_toInt, toInt_m1] at w
    omega
  · obtain ⟨n, hn2, rfl⟩ : ∃ n, n ≤ 40 ∧ u = nI n := nI_of2 (M := nI 40) (n := 40) (by decide) (Int32.not_lt.mpr w4) w3
    rw [if_neg (Int32.not_lt.mpr w3), if_neg (Int32.not_lt.mpr w4)] at hP
    exact put (nI t) n _ hn2 (by rw [ub_nI (by omega)]) hP
  · rw [if_neg (Int32.not_lt.mpr w3), if_pos (Int32.not_le.mp w4)] at hP
    exact hP _ _ rfl hR FrC.refl
  · rw [if_pos (Int32.not_le.mp w3)] at hP
    exact hP _ _ rfl hR FrC.refl
theorem v_sheet_42 (g : mG) (M : mM) (P : mP) (x y u : Int32)
    (h : (y < (-1) → P (some (.inl (-2))) M) ∧ (¬ (y < (-1)) → (y ≤ (nI 1) → (¬ y = (-1) → (u ≤ (nI 40) → (0 ≤ u → let M6 : mM := mW1 M 42 1 y; let M7 : mM := mW1 M6 42 2 u; let M8 : mM := mUp M7 43 (aFill (M 43) 40 (nI 0)); P (some (.inl (nI 1))) M8) ∧ (¬ (0 ≤ u) → P (some (.inl (-14))) M)) ∧ (¬ (u ≤ (nI 40)) → P (some (.inl (-2))) M)) ∧ (¬ (¬ y = (-1)) → let M9 : mM := mW1 M 42 1 (-1); let M10 : mM := mW1 M9 42 2 (nI 0); let M11 : mM := mUp M10 43 (aFill (M 43) 40 (nI 0)); P (some (.inl (nI 1))) M11)) ∧ (¬ (y ≤ (nI 1)) → P (some (.inl (-2))) M))) :
    mRun (mSx g) (f_X7_sheet g) P (5, [some (.inr (some 0)), some (.inl x), some (.inl y), some (.inl u), none], [.inr (some 42)], M) := mRun.vc (m_X7_sheet g) [] 23 h

theorem sheet_run_42 (g : mG) (M : mM) (P : mP) (z : aZ) (y u : Int32) (hR : RpC M z) (hP : pubP M P (F_sheet z [nI 1, y, u])) :
    mRun (mSx g) (f_X7_sheet g) P (5, [some (.inr (some 0)), some (.inl (nI 1)), some (.inl y), some (.inl u), none], [.inr (some 42)], M) := by
  have e1 : ix (nI 1) 4 = some 1 := ix_at (by decide) (by decide)
  have put : ∀ (t : Int32) (n : Nat) (v : Int32 × aZ), n ≤ 40 → v = (1, zS z 1 (t, n, fun _ => 0)) → pubP M P v → P (some (.inl (nI 1))) (mUp (mW1 (mW1 M 42 1 t) 42 2 (nI n)) 43 (aFill (M 43) 40 (nI 0))) := fun t n v hn hv hp => by
    subst hv
    refine hp _ _ rfl (RpC_sheet hR (by decide) ⟨?_, ?_, fun j hj => ?_⟩ (fun d h1 h2 => ?_)) (fun d h1 => ?_)
    · show mUp (mW1 (mW1 M 42 1 t) 42 2 (nI n)) 43 _ 42 1 = t
      rw [mUp_ne (by decide), mW1_k (by decide), mW1_s]
    · show mUp (mW1 (mW1 M 42 1 t) 42 2 (nI n)) 43 _ 42 2 = nI n
      rw [mUp_ne (by decide), mW1_s]
    · show mUp (mW1 (mW1 M 42 1 t) 42 2 (nI n)) 43 _ 43 j = shC t 0
      rw [mUp_at, shC_0]
      have hj' : j < n := hj
      exact if_pos (by omega)
    · show mUp (mW1 (mW1 M 42 1 t) 42 2 (nI n)) 43 _ d = M d
      have h1' : d ≠ 42 := h1
      have h2' : d ≠ 43 := h2
      rw [mUp_ne h2', mW1_c h1', mW1_c h1']
    · show mUp (mW1 (mW1 M 42 1 t) 42 2 (nI n)) 43 _ d = M d
      rw [mUp_ne (by omega), mW1_c (by omega), mW1_c (by omega)]
  refine v_sheet_42 g M P _ _ _ ?_
  by_cases ym : y = -1
  · subst ym
    have hc : F_sheet z [nI 1, -1, u] = (1, zS z 1 (-1, 0, fun _ => 0)) := by
      simp only [F_sheet, e1]
      rfl
    rw [hc] at hP
    refine ⟨fun h => absurd h (by decide), fun _ => ⟨fun _ => ⟨fun h => absurd rfl h, fun _ => put (-1) 0 _ (by decide) rfl hP⟩, fun h => absurd (by decide) h⟩⟩
  rcases ix_cs y (n := 2) (by decide) with ⟨hy, e2⟩ | ⟨t, ht, rfl, e2⟩
  · have hc : F_sheet z [nI 1, y, u] = (-2, z) := by
      simp only [F_sheet, e1, e2]
      rw [if_neg ym]
    rw [hc] at hP
    refine ⟨fun _ => hP _ _ rfl hR FrC.refl, fun w1 => ⟨fun w2 => ?_, fun _ => hP _ _ rfl hR FrC.refl⟩⟩
    exfalso
    rw [fa_eq, toInt_m1] at ym
    simp (disch := omega) only [fa_lt, fa_le, nI_toInt, Int32.toInt_zero, toInt_m1] at hy w1 w2
    omega
  have hn : ¬ nI t = -1 := ym
  have hc : F_sheet z [nI 1, nI t, u] = if nI 40 < u then (-2, z) else if u < 0 then (-14, z) else (1, zS z 1 (nI t, ub u, fun _ => 0)) := by
    simp only [F_sheet, e1, e2]
    rw [if_neg ym]
  rw [hc] at hP
  refine ⟨fun w => ?_, fun _ => ⟨fun _ => ⟨fun _ => ⟨fun w3 => ⟨fun w4 => ?_, fun w4 => ?_⟩, fun w3 => ?_⟩, fun h => absurd hn h⟩, fun w => absurd (nI_le (by omega) (by decide)) w⟩⟩
  · exfalso
    simp (disch := omega) only [fa_lt, nI_toInt, toInt_m1] at w
    omega
  · obtain ⟨n, hn2, rfl⟩ : ∃ n, n ≤ 40 ∧ u = nI n := nI_of2 (M := nI 40) (n := 40) (by decide) (Int32.not_lt.mpr w4) w3
    rw [if_neg (Int32.not_lt.mpr w3), if_neg (Int32.not_lt.mpr w4)] at hP
    exact put (nI t) n _ hn2 (by rw [ub_nI (by omega)]) hP
  · rw [if_neg (Int32.not_lt.mpr w3), if_pos (Int32.not_le.mp w4)] at hP
    exact hP _ _ rfl hR FrC.refl
  · rw [if_pos (Int32.not_le.mp w3)] at hP
    exact hP _ _ rfl hR FrC.refl
theorem v_sheet_44 (g : mG) (M : mM) (P : mP) (x y u : Int32)
    (h : (y < (-1) → P (some (.inl (-2))) M) ∧ (¬ (y < (-1)) → (y ≤ (nI 1) → (¬ y = (-1) → (u ≤ (nI 40) → (0 ≤ u → let M6 : mM := mW1 M 44 1 y; let M7 : mM := mW1 M6 44 2 u; let M8 : mM := mUp M7 45 (aFill (M 45) 40 (nI 0)); P (some (.inl (nI 1))) M8) ∧ (¬ (0 ≤ u) → P (some (.inl (-14))) M)) ∧ (¬ (u ≤ (nI 40)) → P (some (.inl (-2))) M)) ∧ (¬ (¬ y = (-1)) → let M9 : mM := mW1 M 44 1 (-1); let M10 : mM := mW1 M9 44 2 (nI 0); let M11 : mM := mUp M10 45 (aFill (M 45) 40 (nI 0)); P (some (.inl (nI 1))) M11)) ∧ (¬ (y ≤ (nI 1)) → P (some (.inl (-2))) M))) :
    mRun (mSx g) (f_X7_sheet g) P (5, [some (.inr (some 0)), some (.inl x), some (.inl y), some (.inl u), none], [.inr (some 44)], M) := mRun.vc (m_X7_sheet g) [] 23 h

theorem sheet_run_44 (g : mG) (M : mM) (P : mP) (z : aZ) (y u : Int32) (hR : RpC M z) (hP : pubP M P (F_sheet z [nI 2, y, u])) :
    mRun (mSx g) (f_X7_sheet g) P (5, [some (.inr (some 0)), some (.inl (nI 2)), some (.inl y), some (.inl u), none], [.inr (some 44)], M) := by
  have e1 : ix (nI 2) 4 = some 2 := ix_at (by decide) (by decide)
  have put : ∀ (t : Int32) (n : Nat) (v : Int32 × aZ), n ≤ 40 → v = (1, zS z 2 (t, n, fun _ => 0)) → pubP M P v → P (some (.inl (nI 1))) (mUp (mW1 (mW1 M 44 1 t) 44 2 (nI n)) 45 (aFill (M 45) 40 (nI 0))) := fun t n v hn hv hp => by
    subst hv
    refine hp _ _ rfl (RpC_sheet hR (by decide) ⟨?_, ?_, fun j hj => ?_⟩ (fun d h1 h2 => ?_)) (fun d h1 => ?_)
    · show mUp (mW1 (mW1 M 44 1 t) 44 2 (nI n)) 45 _ 44 1 = t
      rw [mUp_ne (by decide), mW1_k (by decide), mW1_s]
    · show mUp (mW1 (mW1 M 44 1 t) 44 2 (nI n)) 45 _ 44 2 = nI n
      rw [mUp_ne (by decide), mW1_s]
    · show mUp (mW1 (mW1 M 44 1 t) 44 2 (nI n)) 45 _ 45 j = shC t 0
      rw [mUp_at, shC_0]
      have hj' : j < n := hj
      exact if_pos (by omega)
    · show mUp (mW1 (mW1 M 44 1 t) 44 2 (nI n)) 45 _ d = M d
      have h1' : d ≠ 44 := h1
      have h2' : d ≠ 45 := h2
      rw [mUp_ne h2', mW1_c h1', mW1_c h1']
    · show mUp (mW1 (mW1 M 44 1 t) 44 2 (nI n)) 45 _ d = M d
      rw [mUp_ne (by omega), mW1_c (by omega), mW1_c (by omega)]
  refine v_sheet_44 g M P _ _ _ ?_
  by_cases ym : y = -1
  · subst ym
    have hc : F_sheet z [nI 2, -1, u] = (1, zS z 2 (-1, 0, fun _ => 0)) := by
      simp only [F_sheet, e1]
      rfl
    rw [hc] at hP
    refine ⟨fun h => absurd h (by decide), fun _ => ⟨fun _ => ⟨fun h => absurd rfl h, fun _ => put (-1) 0 _ (by decide) rfl hP⟩, fun h => absurd (by decide) h⟩⟩
  rcases ix_cs y (n := 2) (by decide) with ⟨hy, e2⟩ | ⟨t, ht, rfl, e2⟩
  · have hc : F_sheet z [nI 2, y, u] = (-2, z) := by
      simp only [F_sheet, e1, e2]
      rw [if_neg ym]
    rw [hc] at hP
    refine ⟨fun _ => hP _ _ rfl hR FrC.refl, fun w1 => ⟨fun w2 => ?_, fun _ => hP _ _ rfl hR FrC.refl⟩⟩
    exfalso
    rw [fa_eq, toInt_m1] at ym
    simp (disch := omega) only [fa_lt, fa_le, nI_toInt, Int32.toInt_zero, toInt_m1] at hy w1 w2
    omega
  have hn : ¬ nI t = -1 := ym
  have hc : F_sheet z [nI 2, nI t, u] = if nI 40 < u then (-2, z) else if u < 0 then (-14, z) else (1, zS z 2 (nI t, ub u, fun _ => 0)) := by
    simp only [F_sheet, e1, e2]
    rw [if_neg ym]
  rw [hc] at hP
  refine ⟨fun w => ?_, fun _ => ⟨fun _ => ⟨fun _ => ⟨fun w3 => ⟨fun w4 => ?_, fun w4 => ?_⟩, fun w3 => ?_⟩, fun h => absurd hn h⟩, fun w => absurd (nI_le (by omega) (by decide)) w⟩⟩
  · exfalso
    simp (disch := omega) only [fa_lt, nI_toInt, toInt_m1] at w
    omega
  · obtain ⟨n, hn2, rfl⟩ : ∃ n, n ≤ 40 ∧ u = nI n := nI_of2 (M := nI 40) (n := 40) (by decide) (Int32.not_lt.mpr w4) w3
    rw [if_neg (Int32.not_lt.mpr w3), if_neg (Int32.not_lt.mpr w4)] at hP
    exact put (nI t) n _ hn2 (by rw [ub_nI (by omega)]) hP
  · rw [if_neg (Int32.not_lt.mpr w3), if_pos (Int32.not_le.mp w4)] at hP
    exact hP _ _ rfl hR FrC.refl
  · rw [if_pos (Int32.not_le.mp w3)] at hP
    exact hP _ _ rfl hR FrC.refl
theorem v_sheet_46 (g : mG) (M : mM) (P : mP) (x y u : Int32)
    (h : (y < (-1) → P (some (.inl (-2))) M) ∧ (¬ (y < (-1)) → (y ≤ (nI 1) → (¬ y = (-1) → (u ≤ (nI 40) → (0 ≤ u → let M6 : mM := mW1 M 46 1 y; let M7 : mM := mW1 M6 46 2 u; let M8 : mM := mUp M7 47 (aFill (M 47) 40 (nI 0)); P (some (.inl (nI 1))) M8) ∧ (¬ (0 ≤ u) → P (some (.inl (-14))) M)) ∧ (¬ (u ≤ (nI 40)) → P (some (.inl (-2))) M)) ∧ (¬ (¬ y = (-1)) → let M9 : mM := mW1 M 46 1 (-1); let M10 : mM := mW1 M9 46 2 (nI 0); let M11 : mM := mUp M10 47 (aFill (M 47) 40 (nI 0)); P (some (.inl (nI 1))) M11)) ∧ (¬ (y ≤ (nI 1)) → P (some (.inl (-2))) M))) :
    mRun (mSx g) (f_X7_sheet g) P (5, [some (.inr (some 0)), some (.inl x), some (.inl y), some (.inl u), none], [.inr (some 46)], M) := mRun.vc (m_X7_sheet g) [] 23 h

theorem sheet_run_46 (g : mG) (M : mM) (P : mP) (z : aZ) (y u : Int32) (hR : RpC M z) (hP : pubP M P (F_sheet z [nI 3, y, u])) :
    mRun (mSx g) (f_X7_sheet g) P (5, [some (.inr (some 0)), some (.inl (nI 3)), some (.inl y), some (.inl u), none], [.inr (some 46)], M) := by
  have e1 : ix (nI 3) 4 = some 3 := ix_at (by decide) (by decide)
  have put : ∀ (t : Int32) (n : Nat) (v : Int32 × aZ), n ≤ 40 → v = (1, zS z 3 (t, n, fun _ => 0)) → pubP M P v → P (some (.inl (nI 1))) (mUp (mW1 (mW1 M 46 1 t) 46 2 (nI n)) 47 (aFill (M 47) 40 (nI 0))) := fun t n v hn hv hp => by
    subst hv
    refine hp _ _ rfl (RpC_sheet hR (by decide) ⟨?_, ?_, fun j hj => ?_⟩ (fun d h1 h2 => ?_)) (fun d h1 => ?_)
    · show mUp (mW1 (mW1 M 46 1 t) 46 2 (nI n)) 47 _ 46 1 = t
      rw [mUp_ne (by decide), mW1_k (by decide), mW1_s]
    · show mUp (mW1 (mW1 M 46 1 t) 46 2 (nI n)) 47 _ 46 2 = nI n
      rw [mUp_ne (by decide), mW1_s]
    · show mUp (mW1 (mW1 M 46 1 t) 46 2 (nI n)) 47 _ 47 j = shC t 0
      rw [mUp_at, shC_0]
      have hj' : j < n := hj
      exact if_pos (by omega)
    · show mUp (mW1 (mW1 M 46 1 t) 46 2 (nI n)) 47 _ d = M d
      have h1' : d ≠ 46 := h1
      have h2' : d ≠ 47 := h2
      rw [mUp_ne h2', mW1_c h1', mW1_c h1']
    · show mUp (mW1 (mW1 M 46 1 t) 46 2 (nI n)) 47 _ d = M d
      rw [mUp_ne (by omega), mW1_c (by omega), mW1_c (by omega)]
  refine v_sheet_46 g M P _ _ _ ?_
  by_cases ym : y = -1
  · subst ym
    have hc : F_sheet z [nI 3, -1, u] = (1, zS z 3 (-1, 0, fun _ => 0)) := by
      simp only [F_sheet, e1]
      rfl
    rw [hc] at hP
    refine ⟨fun h => absurd h (by decide), fun _ => ⟨fun _ => ⟨fun h => absurd rfl h, fun _ => put (-1) 0 _ (by decide) rfl hP⟩, fun h => absurd (by decide) h⟩⟩
  rcases ix_cs y (n := 2) (by decide) with ⟨hy, e2⟩ | ⟨t, ht, rfl, e2⟩
  · have hc : F_sheet z [nI 3, y, u] = (-2, z) := by
      simp only [F_sheet, e1, e2]
      rw [if_neg ym]
    rw [hc] at hP
    refine ⟨fun _ => hP _ _ rfl hR FrC.refl, fun w1 => ⟨fun w2 => ?_, fun _ => hP _ _ rfl hR FrC.refl⟩⟩
    exfalso
    rw [fa_eq, toInt_m1] at ym
    simp (disch := omega) only [fa_lt, fa_le, nI_toInt, Int32.toInt_zero, toInt_m1] at hy w1 w2
    omega
  have hn : ¬ nI t = -1 := ym
  have hc : F_sheet z [nI 3, nI t, u] = if nI 40 < u then (-2, z) else if u < 0 then (-14, z) else (1, zS z 3 (nI t, ub u, fun _ => 0)) := by
    simp only [F_sheet, e1, e2]
    rw [if_neg ym]
  rw [hc] at hP
  refine ⟨fun w => ?_, fun _ => ⟨fun _ => ⟨fun _ => ⟨fun w3 => ⟨fun w4 => ?_, fun w4 => ?_⟩, fun w3 => ?_⟩, fun h => absurd hn h⟩, fun w => absurd (nI_le (by omega) (by decide)) w⟩⟩
  · exfalso
    simp (disch := omega) only [fa_lt, nI_toInt, toInt_m1] at w
    omega
  · obtain ⟨n, hn2, rfl⟩ : ∃ n, n ≤ 40 ∧ u = nI n := nI_of2 (M := nI 40) (n := 40) (by decide) (Int32.not_lt.mpr w4) w3
    rw [if_neg (Int32.not_lt.mpr w3), if_neg (Int32.not_lt.mpr w4)] at hP
    exact put (nI t) n _ hn2 (by rw [ub_nI (by omega)]) hP
  · rw [if_neg (Int32.not_lt.mpr w3), if_pos (Int32.not_le.mp w4)] at hP
    exact hP _ _ rfl hR FrC.refl
  · rw [if_pos (Int32.not_le.mp w3)] at hP
    exact hP _ _ rfl hR FrC.refl
theorem run_X7_sheet : mRunOf 5 t_X7_sheet f_X7_sheet := runC3 (by decide) (fun g M P z x y u hR hI hP => by
  refine v_sheet_0 g M P x y u ?_
  rcases ix_cs x (n := 4) (by decide) with ⟨hx, e1⟩ | ⟨j, hj, rfl, e1⟩
  · rw [shR_no e1]
    refine v_sheet_N g M P _ _ _ ?_
    rw [show F_sheet z [x, y, u] = (-2, z) by simp only [F_sheet, e1]] at hP
    exact hP _ _ rfl hR FrC.refl
  · rw [shR_at hj]
    rcases (by omega : j = 0 ∨ j = 1 ∨ j = 2 ∨ j = 3) with rfl | rfl | rfl | rfl
    · exact sheet_run_40 g M P z y u hR hP
    · exact sheet_run_42 g M P z y u hR hP
    · exact sheet_run_44 g M P z y u hR hP
    · exact sheet_run_46 g M P z y u hR hP)

theorem ok_X7_sheet : mOK yX7_sheet cX7_sheet 5 (some .int) 3 t_X7_sheet := mOK.of f_X7_sheet (by decide) (fun _ => rfl) (fun g => mCodeOK kk_X7_sheet) (fun g => mFldL fk_RX7 rfl) (fun g idx v h => by cases h) (fun g idx v h => by cases h) (mCalL (l := l_X7_sheet) (List.forall_mem_cons.mpr ⟨mSite.V (idx := 246) ok_X7_sheetAt (by decide) (by decide) rv_X7_sheetAt wc_X7_sheetAt wk_RX7_246 wi_X7_sheetAt wl_X7_sheetAt wn_RX7 wd_X7_sheetAt, List.forall_mem_cons.mpr ⟨mSite.V (idx := 264) ok_X4_become (by decide) (by decide) rv_X4_become wc_X4_become wk_RX7_264 wi_X4_become wl_X4_become wn_RX4 wd_X4_become, fun _ h => absurd h List.not_mem_nil⟩⟩) (fun _ => rfl)) run_X7_sheet

def F_cell (z : aZ) (as : List Int32) : Int32 × aZ := match as with
  | [s, i, v] => match ix s 4 with
    | none => (-2, z)
    | some k => if (z.2.2.2 k).1 = -1 then (-11, z) else match ix i (z.2.2.2 k).2.1 with
      | none => (-12, z)
      | some j => (1, zS z k ((z.2.2.2 k).1, (z.2.2.2 k).2.1, upd (z.2.2.2 k).2.2 j (if (z.2.2.2 k).1 = 0 then v.toInt8.toInt32 else v)))
  | _ => (0, z)
abbrev t_X7_cell : mG → mT := pub 3 F_cell
theorem mo_X7_cell : mMn t_X7_cell := pub_mono
theorem rv_X7_cell : mHasR yX7_cell 3 t_X7_cell := pub_recv rfl
def k_X7_cell : List (Nat × mI) := [(0, .aload_n 0, 1, 0, 0, []),
  (1, .iload_n 1, 1, 1, 0, []),
  (2, .invokevirtual 246, 3, 0, 0, []),
  (5, .astore 4, 2, 4, 0, []),
  (7, .aload 4, 2, 4, 0, []),
  (9, .ifnonnull 6, 3, 15, 0, []),
  (12, .bipush (-2), 2, 0, -2, []),
  (14, .ireturn, 1, 0, 0, []),
  (15, .aload 4, 2, 4, 0, []),
  (17, .invokevirtual 250, 3, 0, 0, []),
  (20, .ifCond .eq 6, 3, 26, 0, []),
  (23, .bipush (-11), 2, 0, -11, []),
  (25, .ireturn, 1, 0, 0, []),
  (26, .iload_n 2, 1, 2, 0, []),
  (27, .ifCond .lt 12, 3, 39, 0, []),
  (30, .iload_n 2, 1, 2, 0, []),
  (31, .aload 4, 2, 4, 0, []),
  (33, .getfield 253, 3, 0, 0, []),
  (36, .if_icmp .lt 6, 3, 42, 0, []),
  (39, .bipush (-12), 2, 0, -12, []),
  (41, .ireturn, 1, 0, 0, []),
  (42, .aload 4, 2, 4, 0, []),
  (44, .getfield 268, 3, 0, 0, []),
  (47, .iload_n 2, 1, 2, 0, []),
  (48, .aload 4, 2, 4, 0, []),
  (50, .getfield 281, 3, 0, 0, []),
  (53, .ifCond .ne 11, 3, 64, 0, []),
  (56, .iload_n 3, 1, 3, 0, []),
  (57, .sipush 255, 3, 0, nI 255, []),
  (60, .iand, 1, 0, 0, []),
  (61, .goto 4, 3, 65, 0, []),
  (64, .iload_n 3, 1, 3, 0, []),
  (65, .invokestatic 271, 3, 0, 0, []),
  (68, .iconst 1, 1, 0, nI 1, []),
  (69, .ireturn, 1, 0, 0, [])]
theorem kk_X7_cell : (k_X7_cell.all fun e => mChk cX7_cell e.1 e.2) = true := by decide +kernel
def l_X7_cell : List (Nat × Nat × (mG → mT)) := [(3 * 246, 1 + 1, t_X7_sheetAt), (3 * 250, 0 + 1, t_X4_isMissing), (3 * 271 + 1, 3, t_X7_set)]
def f_X7_cell (g : mG) : mF := (mLk k_X7_cell, mLk fl_RX7, mLk (l_X7_cell.map fun e => (e.1, e.2.1, e.2.2 g)), mLk ([] : List (Nat × mV)), mLk ([] : List (Nat × mV)), some .int)
theorem m_X7_cell (g : mG) : mMono (f_X7_cell g) := mMonoL (g := g) (l := l_X7_cell) (List.forall_mem_cons.mpr ⟨mo_X7_sheetAt, List.forall_mem_cons.mpr ⟨mo_X4_isMissing, List.forall_mem_cons.mpr ⟨mo_X7_set, fun _ h => absurd h List.not_mem_nil⟩⟩⟩) rfl

theorem v_cell_0 (g : mG) (M : mM) (P : mP) (x y u : Int32)
    (h : mRun (mSx g) (f_X7_cell g) P (5, [some (.inr (some 0)), some (.inl x), some (.inl y), some (.inl u), none], [.inr (shR x)], M)) :
    mRun (mSx g) (f_X7_cell g) P (0, [some (.inr (some 0)), some (.inl x), some (.inl y), some (.inl u), none], [], M) := mRun.vc (m_X7_cell g) [5] 4 h

theorem v_cell_N (g : mG) (M : mM) (P : mP) (x y u : Int32)
    (h : P (some (.inl (-2))) M) :
    mRun (mSx g) (f_X7_cell g) P (5, [some (.inr (some 0)), some (.inl x), some (.inl y), some (.inl u), none], [.inr none], M) := mRun.vc (m_X7_cell g) [] 5 h

theorem v_cell_40 (g : mG) (M : mM) (P : mP) (x y u : Int32)
    (h : (¬ (M 40 1) = (-1) → ((nI 0) = 0 ∨ (nI 0) = 1) ∧ (((nI 0) = 0 → (y < 0 → P (some (.inl (-12))) M) ∧ (¬ (y < 0) → (y < (M 40 2) → (¬ (M 40 1) = 0 → let M6 : mM := mUp M 41 (aSet (M 41) 40 y u); P (some (.inl (nI 1))) M6) ∧ (¬ (¬ (M 40 1) = 0) → let M7 : mM := mUp M 41 (aSet (M 41) 40 y (u &&& (nI 255))); P (some (.inl (nI 1))) M7)) ∧ (¬ (y < (M 40 2)) → P (some (.inl (-12))) M))) ∧ (¬ ((nI 0) = 0) → P (some (.inl (-11))) M))) ∧ (¬ (¬ (M 40 1) = (-1)) → ((nI 1) = 0 ∨ (nI 1) = 1) ∧ (((nI 1) = 0 → (y < 0 → P (some (.inl (-12))) M) ∧ (¬ (y < 0) → (y < (M 40 2) → (¬ (M 40 1) = 0 → let M12 : mM := mUp M 41 (aSet (M 41) 40 y u); P (some (.inl (nI 1))) M12) ∧ (¬ (¬ (M 40 1) = 0) → let M13 : mM := mUp M 41 (aSet (M 41) 40 y (u &&& (nI 255))); P (some (.inl (nI 1))) M13)) ∧ (¬ (y < (M 40 2)) → P (some (.inl (-12))) M))) ∧ (¬ ((nI 1) = 0) → P (some (.inl (-11))) M)))) :
    mRun (mSx g) (f_X7_cell g) P (5, [some (.inr (some 0)), some (.inl x), some (.inl y), some (.inl u), none], [.inr (some 40)], M) := mRun.vc (m_X7_cell g) [] 25 h

theorem cell_run_40 (g : mG) (M : mM) (P : mP) (z : aZ) (y u : Int32) (hR : RpC M z) (hI : zInv z) (hP : pubP M P (F_cell z [nI 0, y, u])) :
    mRun (mSx g) (f_X7_cell g) P (5, [some (.inr (some 0)), some (.inl (nI 0)), some (.inl y), some (.inl u), none], [.inr (some 40)], M) := by
  have e1 : ix (nI 0) 4 = some 0 := ix_at (by decide) (by decide)
  have hs := hR.2.2.2.2.1 0 (by decide)
  obtain ⟨s1, s2, s3⟩ := hs
  have s1' : M 40 1 = (z.2.2.2 0).1 := s1
  have s2' : M 40 2 = nI (z.2.2.2 0).2.1 := s2
  have hsz := (hI.2.2.2 0 (by decide)).2.1
  refine v_cell_40 g M P _ _ _ ?_
  rw [s1', s2']
  by_cases hm : (z.2.2.2 0).1 = -1
  · rw [show F_cell z [nI 0, y, u] = (-11, z) by simp only [F_cell, e1]; rw [if_pos hm]] at hP
    have done : P (some (.inl (-11))) M := hP _ _ rfl hR FrC.refl
    refine ⟨fun h => absurd hm h, fun _ => ⟨by first | exact b01 | decide, ?_⟩⟩
    exact ⟨fun h => absurd h (by decide), fun _ => done⟩
  refine ⟨fun _ => ⟨by first | exact b00 | decide, ⟨fun _ => ?_, fun h => absurd rfl h⟩⟩, fun h => absurd hm h⟩
  rcases ix_cs y (n := (z.2.2.2 0).2.1) (by omega) with ⟨hy, e2⟩ | ⟨j, hj, rfl, e2⟩
  · rw [show F_cell z [nI 0, y, u] = (-12, z) by simp only [F_cell, e1, e2]; rw [if_neg hm]] at hP
    have done : P (some (.inl (-12))) M := hP _ _ rfl hR FrC.refl
    exact ⟨fun _ => done, fun w1 => ⟨fun w2 => absurd w2 (Int32.not_lt.mpr (hy.resolve_left w1)), fun _ => done⟩⟩
  rw [show F_cell z [nI 0, nI j, u] = (1, zS z 0 ((z.2.2.2 0).1, (z.2.2.2 0).2.1, upd (z.2.2.2 0).2.2 j (if (z.2.2.2 0).1 = 0 then u.toInt8.toInt32 else u))) by simp only [F_cell, e1, e2]; rw [if_neg hm]] at hP
  have put : ∀ w, w = shC (z.2.2.2 0).1 (if (z.2.2.2 0).1 = 0 then u.toInt8.toInt32 else u) → P (some (.inl (nI 1))) (mUp M 41 (aSet (M 41) 40 (nI j) w)) := fun w hw => by
    refine hP _ _ rfl (RpC_sheet hR (by decide) ⟨?_, ?_, fun q hq => ?_⟩ (fun d h1 h2 => mUp_ne h2)) (fun d h1 => mUp_ne (by omega))
    · show mUp M 41 _ 40 1 = _
      rw [mUp_ne (by decide)]
      exact s1
    · show mUp M 41 _ 40 2 = _
      rw [mUp_ne (by decide)]
      exact s2
    · show mUp M 41 _ 41 q = shC (z.2.2.2 0).1 (upd (z.2.2.2 0).2.2 j _ q)
      rw [mUp_at, aSet_in (by omega) (by decide)]
      by_cases hqj : q = j
      · rw [hqj, upd_s, upd_s]
        exact hw
      · rw [upd_n hqj, upd_n hqj]
        exact s3 q hq
  refine ⟨fun h => absurd h (nI_pos (by omega)), fun _ => ⟨fun _ => ⟨fun h => ?_, fun h => ?_⟩, fun h => absurd (nI_lt hj (by omega)) h⟩⟩
  · refine put _ ?_
    rw [if_neg h]
    exact (if_neg h).symm
  · have h' := Classical.not_not.mp h
    refine put _ ?_
    rw [if_pos h', h', ← byte_and]
    exact (if_pos rfl).symm
theorem v_cell_42 (g : mG) (M : mM) (P : mP) (x y u : Int32)
    (h : (¬ (M 42 1) = (-1) → ((nI 0) = 0 ∨ (nI 0) = 1) ∧ (((nI 0) = 0 → (y < 0 → P (some (.inl (-12))) M) ∧ (¬ (y < 0) → (y < (M 42 2) → (¬ (M 42 1) = 0 → let M6 : mM := mUp M 43 (aSet (M 43) 40 y u); P (some (.inl (nI 1))) M6) ∧ (¬ (¬ (M 42 1) = 0) → let M7 : mM := mUp M 43 (aSet (M 43) 40 y (u &&& (nI 255))); P (some (.inl (nI 1))) M7)) ∧ (¬ (y < (M 42 2)) → P (some (.inl (-12))) M))) ∧ (¬ ((nI 0) = 0) → P (some (.inl (-11))) M))) ∧ (¬ (¬ (M 42 1) = (-1)) → ((nI 1) = 0 ∨ (nI 1) = 1) ∧ (((nI 1) = 0 → (y < 0 → P (some (.inl (-12))) M) ∧ (¬ (y < 0) → (y < (M 42 2) → (¬ (M 42 1) = 0 → let M12 : mM := mUp M 43 (aSet (M 43) 40 y u); P (some (.inl (nI 1))) M12) ∧ (¬ (¬ (M 42 1) = 0) → let M13 : mM := mUp M 43 (aSet (M 43) 40 y (u &&& (nI 255))); P (some (.inl (nI 1))) M13)) ∧ (¬ (y < (M 42 2)) → P (some (.inl (-12))) M))) ∧ (¬ ((nI 1) = 0) → P (some (.inl (-11))) M)))) :
    mRun (mSx g) (f_X7_cell g) P (5, [some (.inr (some 0)), some (.inl x), some (.inl y), some (.inl u), none], [.inr (some 42)], M) := mRun.vc (m_X7_cell g) [] 25 h

theorem cell_run_42 (g : mG) (M : mM) (P : mP) (z : aZ) (y u : Int32) (hR : RpC M z) (hI : zInv z) (hP : pubP M P (F_cell z [nI 1, y, u])) :
    mRun (mSx g) (f_X7_cell g) P (5, [some (.inr (some 0)), some (.inl (nI 1)), some (.inl y), some (.inl u), none], [.inr (some 42)], M) := by
  have e1 : ix (nI 1) 4 = some 1 := ix_at (by decide) (by decide)
  have hs := hR.2.2.2.2.1 1 (by decide)
  obtain ⟨s1, s2, s3⟩ := hs
  have s1' : M 42 1 = (z.2.2.2 1).1 := s1
  have s2' : M 42 2 = nI (z.2.2.2 1).2.1 := s2
  have hsz := (hI.2.2.2 1 (by decide)).2.1
  refine v_cell_42 g M P _ _ _ ?_
  rw [s1', s2']
  by_cases hm : (z.2.2.2 1).1 = -1
  · rw [show F_cell z [nI 1, y, u] = (-11, z) by simp only [F_cell, e1]; rw [if_pos hm]] at hP
    have done : P (some (.inl (-11))) M := hP _ _ rfl hR FrC.refl
    refine ⟨fun h => absurd hm h, fun _ => ⟨by first | exact b01 | decide, ?_⟩⟩
    exact ⟨fun h => absurd h (by decide), fun _ => done⟩
  refine ⟨fun _ => ⟨by first | exact b00 | decide, ⟨fun _ => ?_, fun h => absurd rfl h⟩⟩, fun h => absurd hm h⟩
  rcases ix_cs y (n := (z.2.2.2 1).2.1) (by omega) with ⟨hy, e2⟩ | ⟨j, hj, rfl, e2⟩
  · rw [show F_cell z [nI 1, y, u] = (-12, z) by simp only [F_cell, e1, e2]; rw [if_neg hm]] at hP
    have done : P (some (.inl (-12))) M := hP _ _ rfl hR FrC.refl
    exact ⟨fun _ => done, fun w1 => ⟨fun w2 => absurd w2 (Int32.not_lt.mpr (hy.resolve_left w1)), fun _ => done⟩⟩
  rw [show F_cell z [nI 1, nI j, u] = (1, zS z 1 ((z.2.2.2 1).1, (z.2.2.2 1).2.1, upd (z.2.2.2 1).2.2 j (if (z.2.2.2 1).1 = 0 then u.toInt8.toInt32 else u))) by simp only [F_cell, e1, e2]; rw [if_neg hm]] at hP
  have put : ∀ w, w = shC (z.2.2.2 1).1 (if (z.2.2.2 1).1 = 0 then u.toInt8.toInt32 else u) → P (some (.inl (nI 1))) (mUp M 43 (aSet (M 43) 40 (nI j) w)) := fun w hw => by
    refine hP _ _ rfl (RpC_sheet hR (by decide) ⟨?_, ?_, fun q hq => ?_⟩ (fun d h1 h2 => mUp_ne h2)) (fun d h1 => mUp_ne (by omega))
    · show mUp M 43 _ 42 1 = _
      rw [mUp_ne (by decide)]
      exact s1
    · show mUp M 43 _ 42 2 = _
      rw [mUp_ne (by decide)]
      exact s2
    · show mUp M 43 _ 43 q = shC (z.2.2.2 1).1 (upd (z.2.2.2 1).2.2 j _ q)
      rw [mUp_at, aSet_in (by omega) (by decide)]
      by_cases hqj : q = j
      · rw [hqj, upd_s, upd_s]
        exact hw
      · rw [upd_n hqj, upd_n hqj]
        exact s3 q hq
  refine ⟨fun h => absurd h (nI_pos (by omega)), fun _ => ⟨fun _ => ⟨fun h => ?_, fun h => ?_⟩, fun h => absurd (nI_lt hj (by omega)) h⟩⟩
  · refine put _ ?_
    rw [if_neg h]
    exact (if_neg h).symm
  · have h' := Classical.not_not.mp h
    refine put _ ?_
    rw [if_pos h', h', ← byte_and]
    exact (if_pos rfl).symm
theorem v_cell_44 (g : mG) (M : mM) (P : mP) (x y u : Int32)
    (h : (¬ (M 44 1) = (-1) → ((nI 0) = 0 ∨ (nI 0) = 1) ∧ (((nI 0) = 0 → (y < 0 → P (some (.inl (-12))) M) ∧ (¬ (y < 0) → (y < (M 44 2) → (¬ (M 44 1) = 0 → let M6 : mM := mUp M 45 (aSet (M 45) 40 y u); P (some (.inl (nI 1))) M6) ∧ (¬ (¬ (M 44 1) = 0) → let M7 : mM := mUp M 45 (aSet (M 45) 40 y (u &&& (nI 255))); P (some (.inl (nI 1))) M7)) ∧ (¬ (y < (M 44 2)) → P (some (.inl (-12))) M))) ∧ (¬ ((nI 0) = 0) → P (some (.inl (-11))) M))) ∧ (¬ (¬ (M 44 1) = (-1)) → ((nI 1) = 0 ∨ (nI 1) = 1) ∧ (((nI 1) = 0 → (y < 0 → P (some (.inl (-12))) M) ∧ (¬ (y < 0) → (y < (M 44 2) → (¬ (M 44 1) = 0 → let M12 : mM := mUp M 45 (aSet (M 45) 40 y u); P (some (.inl (nI 1))) M12) ∧ (¬ (¬ (M 44 1) = 0) → let M13 : mM := mUp M 45 (aSet (M 45) 40 y (u &&& (nI 255))); P (some (.inl (nI 1))) M13)) ∧ (¬ (y < (M 44 2)) → P (some (.inl (-12))) M))) ∧ (¬ ((nI 1) = 0) → P (some (.inl (-11))) M)))) :
    mRun (mSx g) (f_X7_cell g) P (5, [some (.inr (some 0)), some (.inl x), some (.inl y), some (.inl u), none], [.inr (some 44)], M) := mRun.vc (m_X7_cell g) [] 25 h

theorem cell_run_44 (g : mG) (M : mM) (P : mP) (z : aZ) (y u : Int32) (hR : RpC M z) (hI : zInv z) (hP : pubP M P (F_cell z [nI 2, y, u])) :
    mRun (mSx g) (f_X7_cell g) P (5, [some (.inr (some 0)), some (.inl (nI 2)), some (.inl y), some (.inl u), none], [.inr (some 44)], M) := by
  have e1 : ix (nI 2) 4 = some 2 := ix_at (by decide) (by decide)
  have hs := hR.2.2.2.2.1 2 (by decide)
  obtain ⟨s1, s2, s3⟩ := hs
  have s1' : M 44 1 = (z.2.2.2 2).1 := s1
  have s2' : M 44 2 = nI (z.2.2.2 2).2.1 := s2
  have hsz := (hI.2.2.2 2 (by decide)).2.1
  refine v_cell_44 g M P _ _ _ ?_
  rw [s1', s2']
  by_cases hm : (z.2.2.2 2).1 = -1
  · rw [show F_cell z [nI 2, y, u] = (-11, z) by simp only [F_cell, e1]; rw [if_pos hm]] at hP
    have done : P (some (.inl (-11))) M := hP _ _ rfl hR FrC.refl
    refine ⟨fun h => absurd hm h, fun _ => ⟨by first | exact b01 | decide, ?_⟩⟩
    exact ⟨fun h => absurd h (by decide), fun _ => done⟩
  refine ⟨fun _ => ⟨by first | exact b00 | decide, ⟨fun _ => ?_, fun h => absurd rfl h⟩⟩, fun h => absurd hm h⟩
  rcases ix_cs y (n := (z.2.2.2 2).2.1) (by omega) with ⟨hy, e2⟩ | ⟨j, hj, rfl, e2⟩
  · rw [show F_cell z [nI 2, y, u] = (-12, z) by simp only [F_cell, e1, e2]; rw [if_neg hm]] at hP
    have done : P (some (.inl (-12))) M := hP _ _ rfl hR FrC.refl
    exact ⟨fun _ => done, fun w1 => ⟨fun w2 => absurd w2 (Int32.not_lt.mpr (hy.resolve_left w1)), fun _ => done⟩⟩
  rw [show F_cell z [nI 2, nI j, u] = (1, zS z 2 ((z.2.2.2 2).1, (z.2.2.2 2).2.1, upd (z.2.2.2 2).2.2 j (if (z.2.2.2 2).1 = 0 then u.toInt8.toInt32 else u))) by simp only [F_cell, e1, e2]; rw [if_neg hm]] at hP
  have put : ∀ w, w = shC (z.2.2.2 2).1 (if (z.2.2.2 2).1 = 0 then u.toInt8.toInt32 else u) → P (some (.inl (nI 1))) (mUp M 45 (aSet (M 45) 40 (nI j) w)) := fun w hw => by
    refine hP _ _ rfl (RpC_sheet hR (by decide) ⟨?_, ?_, fun q hq => ?_⟩ (fun d h1 h2 => mUp_ne h2)) (fun d h1 => mUp_ne (by omega))
    · show mUp M 45 _ 44 1 = _
      rw [mUp_ne (by decide)]
      exact s1
    · show mUp M 45 _ 44 2 = _
      rw [mUp_ne (by decide)]
      exact s2
    · show mUp M 45 _ 45 q = shC (z.2.2.2 2).1 (upd (z.2.2.2 2).2.2 j _ q)
      rw [mUp_at, aSet_in (by omega) (by decide)]
      by_cases hqj : q = j
      · rw [hqj, upd_s, upd_s]
        exact hw
      · rw [upd_n hqj, upd_n hqj]
        exact s3 q hq
  refine ⟨fun h => absurd h (nI_pos (by omega)), fun _ => ⟨fun _ => ⟨fun h => ?_, fun h => ?_⟩, fun h => absurd (nI_lt hj (by omega)) h⟩⟩
  · refine put _ ?_
    rw [if_neg h]
    exact (if_neg h).symm
  · have h' := Classical.not_not.mp h
    refine put _ ?_
    rw [if_pos h', h', ← byte_and]
    exact (if_pos rfl).symm
theorem v_cell_46 (g : mG) (M : mM) (P : mP) (x y u : Int32)
    (h : (¬ (M 46 1) = (-1) → ((nI 0) = 0 ∨ (nI 0) = 1) ∧ (((nI 0) = 0 → (y < 0 → P (some (.inl (-12))) M) ∧ (¬ (y < 0) → (y < (M 46 2) → (¬ (M 46 1) = 0 → let M6 : mM := mUp M 47 (aSet (M 47) 40 y u); P (some (.inl (nI 1))) M6) ∧ (¬ (¬ (M 46 1) = 0) → let M7 : mM := mUp M 47 (aSet (M 47) 40 y (u &&& (nI 255))); P (some (.inl (nI 1))) M7)) ∧ (¬ (y < (M 46 2)) → P (some (.inl (-12))) M))) ∧ (¬ ((nI 0) = 0) → P (some (.inl (-11))) M))) ∧ (¬ (¬ (M 46 1) = (-1)) → ((nI 1) = 0 ∨ (nI 1) = 1) ∧ (((nI 1) = 0 → (y < 0 → P (some (.inl (-12))) M) ∧ (¬ (y < 0) → (y < (M 46 2) → (¬ (M 46 1) = 0 → let M12 : mM := mUp M 47 (aSet (M 47) 40 y u); P (some (.inl (nI 1))) M12) ∧ (¬ (¬ (M 46 1) = 0) → let M13 : mM := mUp M 47 (aSet (M 47) 40 y (u &&& (nI 255))); P (some (.inl (nI 1))) M13)) ∧ (¬ (y < (M 46 2)) → P (some (.inl (-12))) M))) ∧ (¬ ((nI 1) = 0) → P (some (.inl (-11))) M)))) :
    mRun (mSx g) (f_X7_cell g) P (5, [some (.inr (some 0)), some (.inl x), some (.inl y), some (.inl u), none], [.inr (some 46)], M) := mRun.vc (m_X7_cell g) [] 25 h

theorem cell_run_46 (g : mG) (M : mM) (P : mP) (z : aZ) (y u : Int32) (hR : RpC M z) (hI : zInv z) (hP : pubP M P (F_cell z [nI 3, y, u])) :
    mRun (mSx g) (f_X7_cell g) P (5, [some (.inr (some 0)), some (.inl (nI 3)), some (.inl y), some (.inl u), none], [.inr (some 46)], M) := by
  have e1 : ix (nI 3) 4 = some 3 := ix_at (by decide) (by decide)
  have hs := hR.2.2.2.2.1 3 (by decide)
  obtain ⟨s1, s2, s3⟩ := hs
  have s1' : M 46 1 = (z.2.2.2 3).1 := s1
  have s2' : M 46 2 = nI (z.2.2.2 3).2.1 := s2
  have hsz := (hI.2.2.2 3 (by decide)).2.1
  refine v_cell_46 g M P _ _ _ ?_
  rw [s1', s2']
  by_cases hm : (z.2.2.2 3).1 = -1
  · rw [show F_cell z [nI 3, y, u] = (-11, z) by simp only [F_cell, e1]; rw [if_pos hm]] at hP
    have done : P (some (.inl (-11))) M := hP _ _ rfl hR FrC.refl
    refine ⟨fun h => absurd hm h, fun _ => ⟨by first | exact b01 | decide, ?_⟩⟩
    exact ⟨fun h => absurd h (by decide), fun _ => done⟩
  refine ⟨fun _ => ⟨by first | exact b00 | decide, ⟨fun _ => ?_, fun h => absurd rfl h⟩⟩, fun h => absurd hm h⟩
  rcases ix_cs y (n := (z.2.2.2 3).2.1) (by omega) with ⟨hy, e2⟩ | ⟨j, hj, rfl, e2⟩
  · rw [show F_cell z [nI 3, y, u] = (-12, z) by simp only [F_cell, e1, e2]; rw [if_neg hm]] at hP
    have done : P (some (.inl (-12))) M := hP _ _ rfl hR FrC.refl
    exact ⟨fun _ => done, fun w1 => ⟨fun w2 => absurd w2 (Int32.not_lt.mpr (hy.resolve_left w1)), fun _ => done⟩⟩
  rw [show F_cell z [nI 3, nI j, u] = (1, zS z 3 ((z.2.2.2 3).1, (z.2.2.2 3).2.1, upd (z.2.2.2 3).2.2 j (if (z.2.2.2 3).1 = 0 then u.toInt8.toInt32 else u))) by simp only [F_cell, e1, e2]; rw [if_neg hm]] at hP
  have put : ∀ w, w = shC (z.2.2.2 3).1 (if (z.2.2.2 3).1 = 0 then u.toInt8.toInt32 else u) → P (some (.inl (nI 1))) (mUp M 47 (aSet (M 47) 40 (nI j) w)) := fun w hw => by
    refine hP _ _ rfl (RpC_sheet hR (by decide) ⟨?_, ?_, fun q hq => ?_⟩ (fun d h1 h2 => mUp_ne h2)) (fun d h1 => mUp_ne (by omega))
    · show mUp M 47 _ 46 1 = _
      rw [mUp_ne (by decide)]
      exact s1
    · show mUp M 47 _ 46 2 = _
      rw [mUp_ne (by decide)]
      exact s2
    · show mUp M 47 _ 47 q = shC (z.2.2.2 3).1 (upd (z.2.2.2 3).2.2 j _ q)
      rw [mUp_at, aSet_in (by omega) (by decide)]
      by_cases hqj : q = j
      · rw [hqj, upd_s, upd_s]
        exact hw
      · rw [upd_n hqj, upd_n hqj]
        exact s3 q hq
  refine ⟨fun h => absurd h (nI_pos (by omega)), fun _ => ⟨fun _ => ⟨fun h => ?_, fun h => ?_⟩, fun h => absurd (nI_lt hj (by omega)) h⟩⟩
  · refine put _ ?_
    rw [if_neg h]
    exact (if_neg h).symm
  · have h' := Classical.not_not.mp h
    refine put _ ?_
    rw [if_pos h', h', ← byte_and]
    exact (if_pos rfl).symm
theorem run_X7_cell : mRunOf 5 t_X7_cell f_X7_cell := runC3 (by decide) (fun g M P z x y u hR hI hP => by
  refine v_cell_0 g M P x y u ?_
  rcases ix_cs x (n := 4) (by decide) with ⟨hx, e1⟩ | ⟨j, hj, rfl, e1⟩
  · rw [shR_no e1]
    refine v_cell_N g M P _ _ _ ?_
    rw [show F_cell z [x, y, u] = (-2, z) by simp only [F_cell, e1]] at hP
    exact hP _ _ rfl hR FrC.refl
  · rw [shR_at hj]
    rcases (by omega : j = 0 ∨ j = 1 ∨ j = 2 ∨ j = 3) with rfl | rfl | rfl | rfl
    · exact cell_run_40 g M P z y u hR hI hP
    · exact cell_run_42 g M P z y u hR hI hP
    · exact cell_run_44 g M P z y u hR hI hP
    · exact cell_run_46 g M P z y u hR hI hP)

theorem ok_X7_cell : mOK yX7_cell cX7_cell 5 (some .int) 2 t_X7_cell := mOK.of f_X7_cell (by decide) (fun _ => rfl) (fun g => mCodeOK kk_X7_cell) (fun g => mFldL fk_RX7 rfl) (fun g idx v h => by cases h) (fun g idx v h => by cases h) (mCalL (l := l_X7_cell) (List.forall_mem_cons.mpr ⟨mSite.V (idx := 246) ok_X7_sheetAt (by decide) (by decide) rv_X7_sheetAt wc_X7_sheetAt wk_RX7_246 wi_X7_sheetAt wl_X7_sheetAt wn_RX7 wd_X7_sheetAt, List.forall_mem_cons.mpr ⟨mSite.V (idx := 250) ok_X4_isMissing (by decide) (by decide) rv_X4_isMissing wc_X4_isMissing wk_RX7_250 wi_X4_isMissing wl_X4_isMissing wn_RX4 wd_X4_isMissing, List.forall_mem_cons.mpr ⟨mSite.S (idx := 271) ok_X7_set (by decide) (by decide) wc_X7_set wk_RX7_271 wt_X7_set wn_RX7 wd_X7_set, fun _ h => absurd h List.not_mem_nil⟩⟩⟩) (fun _ => rfl)) run_X7_cell

