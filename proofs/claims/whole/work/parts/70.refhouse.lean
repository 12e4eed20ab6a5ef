/-! ===== THE REFERENCE: the house; what is told ===== -/
def RmTp (M : mM) (t : List Int32) : Prop := M 50 33 = nI t.length ∧ ∀ j, j < t.length → M 77 j = t.getD j 0
def RmI (M : mM) (im : Option (List aE)) : Prop := M 50 41 = oI (im.map List.length) ∧ ∀ l, im = some l → ∀ i, i < l.length → M 79 i = nI (eA l i).1.1 ∧ M 80 i = (eA l i).1.2.1 ∧ M 81 i = (eA l i).1.2.2 ∧ M 82 i = (eA l i).2
def RmSh (M : mM) (S : Nat → aSheet) : Prop := ∀ k, k < 4 → M 83 k = (S k).1 ∧ M 84 k = nI (S k).2.1 ∧ ∀ j, j < (S k).2.1 → M (86 + k) j = (S k).2.2 j
def RpM (M : mM) (z : aZ) : Prop := RmTp M z.1 ∧ (M 50 0 = nI z.2.1.length ∧ RmL M z.2.1.length z.2.1) ∧ RmI M z.2.2.1 ∧ RmT M (zT z.2.1) ∧ RmSh M z.2.2.2
/-- only the table has changed -/
theorem RpM.R {M M' : mM} {z : aZ} (h : RpM M z) (hT : RmT M' (zT z.2.1)) (hF : FrR M M') : RpM M' z := by
  obtain ⟨⟨h1, h2⟩, ⟨h3, h4⟩, ⟨h5, h6⟩, -, h7⟩ := h
  refine ⟨⟨(hF.2 33 (by decide)).trans h1, fun j hj => (congrFun (hF.1 77 (by decide)) j).trans (h2 j hj)⟩, ⟨(hF.2 0 (by decide)).trans h3, RmL_fr h4 (fun c a b => hF.1 c (by omega))⟩, ⟨(hF.2 41 (by decide)).trans h5, fun l hl i hi => ?_⟩, hT, fun k hk => ?_⟩
  · rw [hF.1 79 (by decide), hF.1 80 (by decide), hF.1 81 (by decide), hF.1 82 (by decide)]
    exact h6 l hl i hi
  · rw [hF.1 83 (by decide), hF.1 84 (by decide), hF.1 (86 + k) (by omega)]
    exact h7 k hk
theorem RpM.T {M : mM} {z : aZ} (h : RpM M z) : RmT M (zT z.2.1) := h.2.2.2.1
def pubM (k : Nat) (F : aZ → List Int32 → Int32 × aZ) : mG → mT := mRi (fun (q : aZ × List Int32) as M => as = .inr (some 50) :: q.2.map (fun x => (.inl x : mV)) ∧ q.2.length = k ∧ RpM M q.1 ∧ zInv q.1) (fun q _ M v M' => v = (F q.1 q.2).1 ∧ RpM M' (F q.1 q.2).2 ∧ FrM M M')
theorem pubM_mono {k : Nat} {F : aZ → List Int32 → Int32 × aZ} : mMn (pubM k F) := mRi_mono
theorem pubM_recv {k : Nat} {F : aZ → List Int32 → Int32 × aZ} {y : MethodName} (hy : y.cls = RX8) : mHasR y k (pubM k F) := by
  intro g as M P hT hl
  obtain ⟨q, ⟨h1, -⟩, -⟩ := hT
  exact ⟨_, _, h1, by rw [hy]; exact is_X8 g 50 rfl⟩
abbrev pubMP (M : mM) (P : mP) (q : Int32 × aZ) : Prop := ∀ v M', v = q.1 → RpM M' q.2 → FrM M M' → P (some (.inl v)) M'
theorem runM0 {maxL : Nat} {F : aZ → List Int32 → Int32 × aZ} {f : mG → mF} (hn : 1 ≤ maxL) (h : ∀ (g : mG) (M : mM) (P : mP) (z : aZ), RpM M z → zInv z → pubMP M P (F z []) → mRun (mSx g) (f g) P (0, [some (.inr (some 50))] ++ List.replicate (maxL - 1) none, [], M)) : mRunOf maxL (pubM 0 F) f := fun g as M P hT => by
  obtain ⟨⟨z, l⟩, ⟨rfl, h2, h3, h4⟩, hP⟩ := hT
  dsimp only at h2
  match l, h2 with
  | [], _ => exact ⟨hn, h g M P z h3 h4 (fun v M' a b c => hP v M' ⟨a, b, c⟩)⟩
theorem runM1 {maxL : Nat} {F : aZ → List Int32 → Int32 × aZ} {f : mG → mF} (hn : 2 ≤ maxL) (h : ∀ (g : mG) (M : mM) (P : mP) (z : aZ) (x : Int32), RpM M z → zInv z → pubMP M P (F z [x]) → mRun (mSx g) (f g) P (0, [some (.inr (some 50)), some (.inl x)] ++ List.replicate (maxL - 2) none, [], M)) : mRunOf maxL (pubM 1 F) f := fun g as M P hT => by
  obtain ⟨⟨z, l⟩, ⟨rfl, h2, h3, h4⟩, hP⟩ := hT
  dsimp only at h2
  match l, h2 with
  | [x], _ => exact ⟨hn, h g M P z x h3 h4 (fun v M' a b c => hP v M' ⟨a, b, c⟩)⟩
theorem runM2 {maxL : Nat} {F : aZ → List Int32 → Int32 × aZ} {f : mG → mF} (hn : 3 ≤ maxL) (h : ∀ (g : mG) (M : mM) (P : mP) (z : aZ) (x y : Int32), RpM M z → zInv z → pubMP M P (F z [x, y]) → mRun (mSx g) (f g) P (0, [some (.inr (some 50)), some (.inl x), some (.inl y)] ++ List.replicate (maxL - 3) none, [], M)) : mRunOf maxL (pubM 2 F) f := fun g as M P hT => by
  obtain ⟨⟨z, l⟩, ⟨rfl, h2, h3, h4⟩, hP⟩ := hT
  dsimp only at h2
  match l, h2 with
  | [x, y], _ => exact ⟨hn, h g M P z x y h3 h4 (fun v M' a b c => hP v M' ⟨a, b, c⟩)⟩
theorem runM3 {maxL : Nat} {F : aZ → List Int32 → Int32 × aZ} {f : mG → mF} (hn : 4 ≤ maxL) (h : ∀ (g : mG) (M : mM) (P : mP) (z : aZ) (x y u : Int32), RpM M z → zInv z → pubMP M P (F z [x, y, u]) → mRun (mSx g) (f g) P (0, [some (.inr (some 50)), some (.inl x), some (.inl y), some (.inl u)] ++ List.replicate (maxL - 4) none, [], M)) : mRunOf maxL (pubM 3 F) f := fun g as M P hT => by
  obtain ⟨⟨z, l⟩, ⟨rfl, h2, h3, h4⟩, hP⟩ := hT
  dsimp only at h2
  match l, h2 with
  | [x, y, u], _ => exact ⟨hn, h g M P z x y u h3 h4 (fun v M' a b c => hP v M' ⟨a, b, c⟩)⟩
theorem runM5 {maxL : Nat} {F : aZ → List Int32 → Int32 × aZ} {f : mG → mF} (hn : 6 ≤ maxL) (h : ∀ (g : mG) (M : mM) (P : mP) (z : aZ) (x y u v w : Int32), RpM M z → zInv z → pubMP M P (F z [x, y, u, v, w]) → mRun (mSx g) (f g) P (0, [some (.inr (some 50)), some (.inl x), some (.inl y), some (.inl u), some (.inl v), some (.inl w)] ++ List.replicate (maxL - 6) none, [], M)) : mRunOf maxL (pubM 5 F) f := fun g as M P hT => by
  obtain ⟨⟨z, l⟩, ⟨rfl, h2, h3, h4⟩, hP⟩ := hT
  dsimp only at h2
  match l, h2 with
  | [x, y, u, v, w], _ => exact ⟨hn, h g M P z x y u v w h3 h4 (fun v M' a b c => hP v M' ⟨a, b, c⟩)⟩
theorem runM6 {maxL : Nat} {F : aZ → List Int32 → Int32 × aZ} {f : mG → mF} (hn : 7 ≤ maxL) (h : ∀ (g : mG) (M : mM) (P : mP) (z : aZ) (x y u v w t : Int32), RpM M z → zInv z → pubMP M P (F z [x, y, u, v, w, t]) → mRun (mSx g) (f g) P (0, [some (.inr (some 50)), some (.inl x), some (.inl y), some (.inl u), some (.inl v), some (.inl w), some (.inl t)] ++ List.replicate (maxL - 7) none, [], M)) : mRunOf maxL (pubM 6 F) f := fun g as M P hT => by
  obtain ⟨⟨z, l⟩, ⟨rfl, h2, h3, h4⟩, hP⟩ := hT
  dsimp only at h2
  match l, h2 with
  | [x, y, u, v, w, t], _ => exact ⟨hn, h g M P z x y u v w t h3 h4 (fun v M' a b c => hP v M' ⟨a, b, c⟩)⟩

theorem fI0 (x : Int32) : fIn x (nI 0) (nI 0) = mb ((ix x 1).isSome = true) := fIn_ix (by decide)
theorem fI1 (x : Int32) : fIn x (nI 0) (nI 1) = mb ((ix x 2).isSome = true) := fIn_ix (by decide)
theorem fI2 (x : Int32) : fIn x (nI 0) (nI 2) = mb ((ix x 3).isSome = true) := fIn_ix (by decide)
theorem fI3 (x : Int32) : fIn x (nI 0) (nI 3) = mb ((ix x 4).isSome = true) := fIn_ix (by decide)
theorem fI4 (x : Int32) : fIn x (nI 0) (nI 4) = mb ((ix x 5).isSome = true) := fIn_ix (by decide)
theorem fI5 (x : Int32) : fIn x (nI 0) (nI 5) = mb ((ix x 6).isSome = true) := fIn_ix (by decide)
theorem fI6 (x : Int32) : fIn x (nI 0) (nI 6) = mb ((ix x 7).isSome = true) := fIn_ix (by decide)
theorem fI7 (x : Int32) : fIn x (nI 0) (nI 7) = mb ((ix x 8).isSome = true) := fIn_ix (by decide)
theorem fI8 (x : Int32) : fIn x (nI 0) (nI 8) = mb ((ix x 9).isSome = true) := fIn_ix (by decide)
theorem fI13 (x : Int32) : fIn x (nI 0) (nI 13) = mb ((ix x 14).isSome = true) := fIn_ix (by decide)
theorem fI31 (x : Int32) : fIn x (nI 0) (nI 31) = mb ((ix x 32).isSome = true) := fIn_ix (by decide)
theorem ix_ne {x : Int32} {n : Nat} (h : ix x n = none) (hn : n < 2 ^ 31) : ∀ k, k < n → ¬ x = nI k := fun k hk z => by
  rw [z, ix_at hk hn] at h
  cases h
def k_X8_isHouse : List (Nat × mI) := [(0, .iload_n 0, 1, 0, 0, []),
  (1, .iconst 0, 1, 0, nI 0, []),
  (2, .iconst 5, 1, 0, nI 5, []),
  (3, .invokestatic 214, 3, 0, 0, []),
  (6, .ireturn, 1, 0, 0, [])]
theorem kk_X8_isHouse : (k_X8_isHouse.all fun e => mChk cX8_isHouse e.1 e.2) = true := by decide +kernel
def l_X8_isHouse : List (Nat × Nat × (mG → mT)) := [(3 * 214 + 1, 3, t_X8_in)]
def f_X8_isHouse (g : mG) : mF := (mLk k_X8_isHouse, mLk fl_RX8, mLk (l_X8_isHouse.map fun e => (e.1, e.2.1, e.2.2 g)), mLk ([] : List (Nat × mV)), mLk ([] : List (Nat × mV)), some .boolean)
theorem m_X8_isHouse (g : mG) : mMono (f_X8_isHouse g) := mMonoL (g := g) (l := l_X8_isHouse) (List.forall_mem_cons.mpr ⟨mo_X8_in, fun _ h => absurd h List.not_mem_nil⟩) rfl
def t_X8_isHouse : mG → mT := mSV f_X8_isHouse 1 6
theorem mo_X8_isHouse : mMn t_X8_isHouse := mSV_mono m_X8_isHouse
theorem ok_X8_isHouse : mOK yX8_isHouse cX8_isHouse 1 (some .boolean) 2 t_X8_isHouse := mOK.of f_X8_isHouse (by decide) (fun _ => rfl) (fun g => mCodeOK kk_X8_isHouse) (fun g => mFldL fk_RX8 rfl) (fun g idx v h => by cases h) (fun g idx v h => by cases h) (mCalL (l := l_X8_isHouse) (List.forall_mem_cons.mpr ⟨mSite.S (idx := 214) ok_X8_in (by decide) (by decide) wc_X8_in wk_RX8_214 wt_X8_in wn_RX8 wd_X8_in, fun _ h => absurd h List.not_mem_nil⟩) (fun _ => rfl)) (mSV_run m_X8_isHouse)

def pre_X8_answer (q : aT × Int32) (as : List mV) (M : mM) : Prop := as = [.inr (some 50), .inl q.2] ∧ RmT M q.1 ∧ q.1.2.2.1.2.2.2.2.length ≤ 32 ∧ ∃ j, j < 14 ∧ q.2 = nI j
def post_X8_answer (q : aT × Int32) (_ : List mV) (M : mM) (v : Int32) (M' : mM) : Prop := v = tAns q.1 q.2 ∧ M' = M
abbrev t_X8_answer : mG → mT := mRi pre_X8_answer post_X8_answer
theorem mo_X8_answer : mMn t_X8_answer := mRi_mono
theorem rv_X8_answer : mHasR yX8_answer 1 t_X8_answer := by
  intro g as M P hT hl
  obtain ⟨q, ⟨h2, -⟩, -⟩ := hT
  exact ⟨_, _, h2, is_X8 g _ rfl⟩
def k_X8_answer : List (Nat × mI) := [(0, .iload_n 1, 1, 1, 0, []),
  (1, .tableswitch 132 0 12 #[67, 72, 77, 82, 87, 92, 97, 102, 107, 107, 117, 122, 127], 67, 133, 0, [(nI 0, 68), (nI 1, 73), (nI 2, 78), (nI 3, 83), (nI 4, 88), (nI 5, 93), (nI 6, 98), (nI 7, 103), (nI 8, 108), (nI 9, 108), (nI 10, 118), (nI 11, 123), (nI 12, 128)]),
  (68, .aload_n 0, 1, 0, 0, []),
  (69, .getfield 100, 3, 0, 0, []),
  (72, .ireturn, 1, 0, 0, []),
  (73, .aload_n 0, 1, 0, 0, []),
  (74, .getfield 103, 3, 0, 0, []),
  (77, .ireturn, 1, 0, 0, []),
  (78, .aload_n 0, 1, 0, 0, []),
  (79, .getfield 106, 3, 0, 0, []),
  (82, .ireturn, 1, 0, 0, []),
  (83, .aload_n 0, 1, 0, 0, []),
  (84, .getfield 79, 3, 0, 0, []),
  (87, .ireturn, 1, 0, 0, []),
  (88, .aload_n 0, 1, 0, 0, []),
  (89, .getfield 82, 3, 0, 0, []),
  (92, .ireturn, 1, 0, 0, []),
  (93, .aload_n 0, 1, 0, 0, []),
  (94, .getfield 85, 3, 0, 0, []),
  (97, .ireturn, 1, 0, 0, []),
  (98, .aload_n 0, 1, 0, 0, []),
  (99, .getfield 91, 3, 0, 0, []),
  (102, .ireturn, 1, 0, 0, []),
  (103, .aload_n 0, 1, 0, 0, []),
  (104, .getfield 97, 3, 0, 0, []),
  (107, .ireturn, 1, 0, 0, []),
  (108, .aload_n 0, 1, 0, 0, []),
  (109, .getfield 42, 3, 0, 0, []),
  (112, .iload_n 1, 1, 1, 0, []),
  (113, .bipush 8, 2, 0, nI 8, []),
  (115, .isub, 1, 0, 0, []),
  (116, .iaload, 1, 0, 0, []),
  (117, .ireturn, 1, 0, 0, []),
  (118, .aload_n 0, 1, 0, 0, []),
  (119, .getfield 109, 3, 0, 0, []),
  (122, .ireturn, 1, 0, 0, []),
  (123, .aload_n 0, 1, 0, 0, []),
  (124, .getfield 112, 3, 0, 0, []),
  (127, .ireturn, 1, 0, 0, []),
  (128, .aload_n 0, 1, 0, 0, []),
  (129, .getfield 94, 3, 0, 0, []),
  (132, .ireturn, 1, 0, 0, []),
  (133, .bipush 8, 2, 0, nI 8, []),
  (135, .aload_n 0, 1, 0, 0, []),
  (136, .getfield 97, 3, 0, 0, []),
  (139, .isub, 1, 0, 0, []),
  (140, .ireturn, 1, 0, 0, [])]
theorem kk_X8_answer : (k_X8_answer.all fun e => mChk cX8_answer e.1 e.2) = true := by decide +kernel
def l_X8_answer : List (Nat × Nat × (mG → mT)) := []
def f_X8_answer (g : mG) : mF := (mLk k_X8_answer, mLk fl_RX8, mLk (l_X8_answer.map fun e => (e.1, e.2.1, e.2.2 g)), mLk ([] : List (Nat × mV)), mLk ([] : List (Nat × mV)), some .int)
theorem m_X8_answer (g : mG) : mMono (f_X8_answer g) := mMonoL (g := g) (l := l_X8_answer) (fun _ h => absurd h List.not_mem_nil) rfl

theorem v_ans (g : mG) (M : mM) (P : mP) (w : Int32)
    (h : (w = (nI 0) → P (some (.inl (M 50 5))) M) ∧ (¬ w = (nI 0) → (w = (nI 1) → P (some (.inl (M 50 6))) M) ∧ (¬ w = (nI 1) → (w = (nI 2) → P (some (.inl (M 50 7))) M) ∧ (¬ w = (nI 2) → (w = (nI 3) → P (some (.inl (M 50 8))) M) ∧ (¬ w = (nI 3) → (w = (nI 4) → P (some (.inl (M 50 9))) M) ∧ (¬ w = (nI 4) → (w = (nI 5) → P (some (.inl (M 50 10))) M) ∧ (¬ w = (nI 5) → (w = (nI 6) → P (some (.inl (M 50 12))) M) ∧ (¬ w = (nI 6) → (w = (nI 7) → P (some (.inl (M 50 19))) M) ∧ (¬ w = (nI 7) → (w = (nI 8) → vp_in (w - (nI 8)) 2 ∧ (P (some (.inl (M 63 ((w - (nI 8)).toNatClampNeg)))) M)) ∧ (¬ w = (nI 8) → (w = (nI 9) → vp_in (w - (nI 8)) 2 ∧ (P (some (.inl (M 63 ((w - (nI 8)).toNatClampNeg)))) M)) ∧ (¬ w = (nI 9) → (w = (nI 10) → P (some (.inl (M 50 14))) M) ∧ (¬ w = (nI 10) → (w = (nI 11) → P (some (.inl (M 50 15))) M) ∧ (¬ w = (nI 11) → (w = (nI 12) → P (some (.inl (M 50 13))) M) ∧ (¬ w = (nI 12) → P (some (.inl ((nI 8) - (M 50 19)))) M)))))))))))))) :
    mRun (mSx g) (f_X8_answer g) P (0, [some (.inr (some 50)), some (.inl w)], [], M) := mRun.vc (m_X8_answer g) [] 9 h

theorem run_X8_answer : mRunOf 2 t_X8_answer f_X8_answer := fun g as M P hT => by
  obtain ⟨⟨T, w⟩, ⟨rfl, hR, hl, j, hj, hw⟩, hP⟩ := hT
  refine ⟨Nat.le_of_ble_eq_true rfl, ?_⟩
  dsimp only at hR hl hw hP
  have hQ : ∀ v, v = tAns T w → P (some (.inl v)) M := fun v e => hP v M ⟨e, rfl⟩
  obtain ⟨⟨h1, h2, h3, h4, h5⟩, ⟨b1, b2, b3, b4, b5, b6, b7⟩, ⟨p19, -, -, -, -, -, -, p8, p9⟩, -⟩ := hR
  refine v_ans g M P _ ⟨fun z0 => ?_, fun n0 => ⟨fun z1 => ?_, fun n1 => ⟨fun z2 => ?_, fun n2 => ⟨fun z3 => ?_, fun n3 => ⟨fun z4 => ?_, fun n4 => ⟨fun z5 => ?_, fun n5 => ⟨fun z6 => ?_, fun n6 => ⟨fun z7 => ?_, fun n7 => ⟨fun z8 => ?_, fun n8 => ⟨fun z9 => ?_, fun n9 => ⟨fun z10 => ?_, fun n10 => ⟨fun z11 => ?_, fun n11 => ⟨fun z12 => ?_, fun n12 => ?_⟩⟩⟩⟩⟩⟩⟩⟩⟩⟩⟩⟩⟩
  · refine hQ _ ?_
    rw [tAns, if_pos z0]
    exact h1
  · refine hQ _ ?_
    rw [tAns, if_neg n0, if_pos z1]
    exact h2
  · refine hQ _ ?_
    rw [tAns, if_neg n0, if_neg n1, if_pos z2]
    exact h3
  · refine hQ _ ?_
    rw [tAns, if_neg n0, if_neg n1, if_neg n2, if_pos z3]
    exact b1
  · refine hQ _ ?_
    rw [tAns, if_neg n0, if_neg n1, if_neg n2, if_neg n3, if_pos z4]
    exact b2
  · refine hQ _ ?_
    rw [tAns, if_neg n0, if_neg n1, if_neg n2, if_neg n3, if_neg n4, if_pos z5]
    exact b3
  · refine hQ _ ?_
    rw [tAns, if_neg n0, if_neg n1, if_neg n2, if_neg n3, if_neg n4, if_neg n5, if_pos z6]
    exact b5
  · refine hQ _ ?_
    rw [tAns, if_neg n0, if_neg n1, if_neg n2, if_neg n3, if_neg n4, if_neg n5, if_neg n6, if_pos z7]
    exact p19
  · refine ⟨by rw [z8, show nI 8 - nI 8 = nI 0 by decide]; exact vp_in_nI (by decide) (by decide), hQ _ ?_⟩
    rw [tAns, if_neg n0, if_neg n1, if_neg n2, if_neg n3, if_neg n4, if_neg n5, if_neg n6, if_neg n7, if_pos z8]
    rw [z8]
    exact p8
  · refine ⟨by rw [z9, show nI 9 - nI 8 = nI 1 by decide]; exact vp_in_nI (by decide) (by decide), hQ _ ?_⟩
    rw [tAns, if_neg n0, if_neg n1, if_neg n2, if_neg n3, if_neg n4, if_neg n5, if_neg n6, if_neg n7, if_neg n8, if_pos z9]
    rw [z9]
    exact p9
  · refine hQ _ ?_
    rw [tAns, if_neg n0, if_neg n1, if_neg n2, if_neg n3, if_neg n4, if_neg n5, if_neg n6, if_neg n7, if_neg n8, if_neg n9, if_pos z10]
    exact h4
  · refine hQ _ ?_
    rw [tAns, if_neg n0, if_neg n1, if_neg n2, if_neg n3, if_neg n4, if_neg n5, if_neg n6, if_neg n7, if_neg n8, if_neg n9, if_neg n10, if_pos z11]
    exact h5
  · refine hQ _ ?_
    rw [tAns, if_neg n0, if_neg n1, if_neg n2, if_neg n3, if_neg n4, if_neg n5, if_neg n6, if_neg n7, if_neg n8, if_neg n9, if_neg n10, if_neg n11, if_pos z12]
    exact b6
  · refine hQ _ ?_
    have hj13 : w = nI 13 := by
      rw [hw] at n0 n1 n2 n3 n4 n5 n6 n7 n8 n9 n10 n11 n12 ⊢
      rcases (by omega : j = 0 ∨ j = 1 ∨ j = 2 ∨ j = 3 ∨ j = 4 ∨ j = 5 ∨ j = 6 ∨ j = 7 ∨ j = 8 ∨ j = 9 ∨ j = 10 ∨ j = 11 ∨ j = 12 ∨ j = 13) with rfl | rfl | rfl | rfl | rfl | rfl | rfl | rfl | rfl | rfl | rfl | rfl | rfl | rfl <;> first | rfl | contradiction
    rw [tAns, if_neg n0, if_neg n1, if_neg n2, if_neg n3, if_neg n4, if_neg n5, if_neg n6, if_neg n7, if_neg n8, if_neg n9, if_neg n10, if_neg n11, if_neg n12, if_pos hj13, p19, pk_sub (by omega)]
theorem ok_X8_answer : mOK yX8_answer cX8_answer 2 (some .int) 1 t_X8_answer := mOK.of f_X8_answer (by decide) (fun _ => rfl) (fun g => mCodeOK kk_X8_answer) (fun g => mFldL fk_RX8 rfl) (fun g idx v h => by cases h) (fun g idx v h => by cases h) (mCalL (l := l_X8_answer) (fun _ h => absurd h List.not_mem_nil) (fun _ => rfl)) run_X8_answer

theorem tAns_no {T : aT} {x : Int32} (h : ix x 14 = none) : tAns T x = -2 := by
  have h := ix_ne h (by decide)
  rw [tAns, if_neg (h 0 (by decide)), if_neg (h 1 (by decide)), if_neg (h 2 (by decide)), if_neg (h 3 (by decide)), if_neg (h 4 (by decide)), if_neg (h 5 (by decide)), if_neg (h 6 (by decide)), if_neg (h 7 (by decide)), if_neg (h 8 (by decide)), if_neg (h 9 (by decide)), if_neg (h 10 (by decide)), if_neg (h 11 (by decide)), if_neg (h 12 (by decide)), if_neg (h 13 (by decide))]
abbrev t_X8_told : mG → mT := pubM 1 F_told
theorem mo_X8_told : mMn t_X8_told := pubM_mono
theorem rv_X8_told : mHasR yX8_told 1 t_X8_told := pubM_recv rfl
def k_X8_told : List (Nat × mI) := [(0, .iload_n 1, 1, 1, 0, []),
  (1, .iconst 0, 1, 0, nI 0, []),
  (2, .bipush 13, 2, 0, nI 13, []),
  (4, .invokestatic 214, 3, 0, 0, []),
  (7, .ifCond .eq 11, 3, 18, 0, []),
  (10, .aload_n 0, 1, 0, 0, []),
  (11, .iload_n 1, 1, 1, 0, []),
  (12, .invokevirtual 350, 3, 0, 0, []),
  (15, .goto 5, 3, 20, 0, []),
  (18, .bipush (-2), 2, 0, -2, []),
  (20, .ireturn, 1, 0, 0, [])]
theorem kk_X8_told : (k_X8_told.all fun e => mChk cX8_told e.1 e.2) = true := by decide +kernel
def l_X8_told : List (Nat × Nat × (mG → mT)) := [(3 * 214 + 1, 3, t_X8_in), (3 * 350, 1 + 1, t_X8_answer)]
def f_X8_told (g : mG) : mF := (mLk k_X8_told, mLk fl_RX8, mLk (l_X8_told.map fun e => (e.1, e.2.1, e.2.2 g)), mLk ([] : List (Nat × mV)), mLk ([] : List (Nat × mV)), some .int)
theorem m_X8_told (g : mG) : mMono (f_X8_told g) := mMonoL (g := g) (l := l_X8_told) (List.forall_mem_cons.mpr ⟨mo_X8_in, List.forall_mem_cons.mpr ⟨mo_X8_answer, fun _ h => absurd h List.not_mem_nil⟩⟩) rfl

theorem w_told (g : mG) (M : mM) (P : mP) (x : Int32)
    (h : ((fIn x (nI 0) (nI 13)) = 0 → P (some (.inl (-2))) M) ∧ (¬ ((fIn x (nI 0) (nI 13)) = 0) → ∃ x2 : aT × Int32, pre_X8_answer x2 [.inr (some 50), .inl x] M ∧ ∀ (r4 : Int32) (M3 : mM), post_X8_answer x2 [.inr (some 50), .inl x] M r4 M3 → (P (some (.inl r4)) M3))) :
    mRun (mSx g) (f_X8_told g) P (0, [some (.inr (some 50)), some (.inl x)], [], M) := mRun.vc (m_X8_told g) [] 10 h

theorem run_X8_told : mRunOf 2 t_X8_told f_X8_told := runM1 (by decide) (fun g M P z x hR hI hP => by
  have hQ : ∀ v, v = tAns (zT z.2.1) x → P (some (.inl v)) M := fun v e => hP v M e hR FrM.refl
  refine w_told g M P x ?_
  rw [fI13]
  rcases ix_cs x (n := 14) (by decide) with ⟨hx, e1⟩ | ⟨j, hj, hxj, e1⟩
  · rw [e1, mb_no]
    exact ⟨fun _ => hQ _ (tAns_no e1).symm, fun h => absurd rfl h⟩
  · rw [e1, mb_so]
    refine ⟨fun h => absurd h (by decide), fun _ => ⟨(zT z.2.1, x), ⟨rfl, hR.T, hI.T.len, j, hj, hxj⟩, fun r M3 hr => ?_⟩⟩
    obtain ⟨rfl, rfl⟩ := hr
    exact hQ _ rfl)

theorem ok_X8_told : mOK yX8_told cX8_told 2 (some .int) 2 t_X8_told := mOK.of f_X8_told (by decide) (fun _ => rfl) (fun g => mCodeOK kk_X8_told) (fun g => mFldL fk_RX8 rfl) (fun g idx v h => by cases h) (fun g idx v h => by cases h) (mCalL (l := l_X8_told) (List.forall_mem_cons.mpr ⟨mSite.S (idx := 214) ok_X8_in (by decide) (by decide) wc_X8_in wk_RX8_214 wt_X8_in wn_RX8 wd_X8_in, List.forall_mem_cons.mpr ⟨mSite.V (idx := 350) ok_X8_answer (by decide) (by decide) rv_X8_answer wc_X8_answer wk_RX8_350 wi_X8_answer wl_X8_answer wn_RX8 wd_X8_answer, fun _ h => absurd h List.not_mem_nil⟩⟩) (fun _ => rfl)) run_X8_told

abbrev t_X8_log : mG → mT := pubM 2 F_log
theorem mo_X8_log : mMn t_X8_log := pubM_mono
theorem rv_X8_log : mHasR yX8_log 2 t_X8_log := pubM_recv rfl
def k_X8_log : List (Nat × mI) := [(0, .iload_n 2, 1, 2, 0, []),
  (1, .iconst 0, 1, 0, nI 0, []),
  (2, .iconst 3, 1, 0, nI 3, []),
  (3, .invokestatic 214, 3, 0, 0, []),
  (6, .ifCond .ne 6, 3, 12, 0, []),
  (9, .bipush (-2), 2, 0, -2, []),
  (11, .ireturn, 1, 0, 0, []),
  (12, .iload_n 1, 1, 1, 0, []),
  (13, .iconst 0, 1, 0, nI 0, []),
  (14, .aload_n 0, 1, 0, 0, []),
  (15, .getfield 311, 3, 0, 0, []),
  (18, .iconst 1, 1, 0, nI 1, []),
  (19, .isub, 1, 0, 0, []),
  (20, .invokestatic 214, 3, 0, 0, []),
  (23, .ifCond .ne 6, 3, 29, 0, []),
  (26, .bipush (-12), 2, 0, -12, []),
  (28, .ireturn, 1, 0, 0, []),
  (29, .iload_n 2, 1, 2, 0, []),
  (30, .ifCond .ne 12, 3, 42, 0, []),
  (33, .aload_n 0, 1, 0, 0, []),
  (34, .getfield 9, 3, 0, 0, []),
  (37, .iload_n 1, 1, 1, 0, []),
  (38, .iaload, 1, 0, 0, []),
  (39, .goto 37, 3, 76, 0, []),
  (42, .iload_n 2, 1, 2, 0, []),
  (43, .iconst 1, 1, 0, nI 1, []),
  (44, .if_icmp .ne 12, 3, 56, 0, []),
  (47, .aload_n 0, 1, 0, 0, []),
  (48, .getfield 13, 3, 0, 0, []),
  (51, .iload_n 1, 1, 1, 0, []),
  (52, .iaload, 1, 0, 0, []),
  (53, .goto 23, 3, 76, 0, []),
  (56, .iload_n 2, 1, 2, 0, []),
  (57, .iconst 2, 1, 0, nI 2, []),
  (58, .if_icmp .ne 12, 3, 70, 0, []),
  (61, .aload_n 0, 1, 0, 0, []),
  (62, .getfield 16, 3, 0, 0, []),
  (65, .iload_n 1, 1, 1, 0, []),
  (66, .iaload, 1, 0, 0, []),
  (67, .goto 9, 3, 76, 0, []),
  (70, .aload_n 0, 1, 0, 0, []),
  (71, .getfield 19, 3, 0, 0, []),
  (74, .iload_n 1, 1, 1, 0, []),
  (75, .iaload, 1, 0, 0, []),
  (76, .ireturn, 1, 0, 0, [])]
theorem kk_X8_log : (k_X8_log.all fun e => mChk cX8_log e.1 e.2) = true := by decide +kernel
def l_X8_log : List (Nat × Nat × (mG → mT)) := [(3 * 214 + 1, 3, t_X8_in)]
def f_X8_log (g : mG) : mF := (mLk k_X8_log, mLk fl_RX8, mLk (l_X8_log.map fun e => (e.1, e.2.1, e.2.2 g)), mLk ([] : List (Nat × mV)), mLk ([] : List (Nat × mV)), some .int)
theorem m_X8_log (g : mG) : mMono (f_X8_log g) := mMonoL (g := g) (l := l_X8_log) (List.forall_mem_cons.mpr ⟨mo_X8_in, fun _ h => absurd h List.not_mem_nil⟩) rfl

theorem w_log (g : mG) (M : mM) (P : mP) (x y : Int32)
    (h : (¬ (fIn y (nI 0) (nI 3)) = 0 → (¬ (fIn x (nI 0) ((M 50 0) - (nI 1))) = 0 → (¬ y = 0 → (¬ y = (nI 1) → (¬ y = (nI 2) → vp_in x 90 ∧ (P (some (.inl (M 54 x.toNatClampNeg))) M)) ∧ (¬ (¬ y = (nI 2)) → vp_in x 90 ∧ (P (some (.inl (M 53 x.toNatClampNeg))) M))) ∧ (¬ (¬ y = (nI 1)) → vp_in x 90 ∧ (P (some (.inl (M 52 x.toNatClampNeg))) M))) ∧ (¬ (¬ y = 0) → vp_in x 90 ∧ (P (some (.inl (M 51 x.toNatClampNeg))) M))) ∧ (¬ (¬ (fIn x (nI 0) ((M 50 0) - (nI 1))) = 0) → P (some (.inl (-12))) M)) ∧ (¬ (¬ (fIn y (nI 0) (nI 3)) = 0) → P (some (.inl (-2))) M)) :
    mRun (mSx g) (f_X8_log g) P (0, [some (.inr (some 50)), some (.inl x), some (.inl y)], [], M) := mRun.vc (m_X8_log g) [] 27 h

theorem fIn_len {x : Int32} {n : Nat} (hn : n < 1000) : fIn x (nI 0) (nI n - nI 1) = mb ((ix x n).isSome = true) := by
  cases n with
  | zero =>
    unfold fIn
    refine mb_congr ⟨fun w => ?_, fun w => ?_⟩
    · exfalso
      have h1 := w.1
      have h2 := w.2
      rw [show nI 0 - nI 1 = -1 by decide] at h2
      simp only [fa_le, toInt_m1] at h1 h2
      rw [nI_toInt (by decide)] at h1
      omega
    · exfalso
      rw [show ix x 0 = none from if_neg (fun z => absurd (Int32.lt_of_le_of_lt z.1 z.2) (by decide))] at w
      cases w
  | succ m => rw [pk_sub (by omega), Nat.add_sub_cancel, fIn_ix (by omega)]
theorem run_X8_log : mRunOf 3 t_X8_log f_X8_log := runM2 (by decide) (fun g M P z x y hR hI hP => by
  obtain ⟨l1, l2⟩ := hR.2.1
  have hlen := hI.2.1.1
  have hQ : ∀ v, v = (F_log z [x, y]).1 → P (some (.inl v)) M := fun v e => hP v M e hR FrM.refl
  refine w_log g M P x y ?_
  rw [l1, fI3, fIn_len (by omega)]
  rcases ix_cs y (n := 4) (by decide) with ⟨hw, e1⟩ | ⟨k, hk, rfl, e1⟩
  · have hc : F_log z [x, y] = (-2, z) := by simp only [F_log, e1]
    rw [hc] at hQ
    rw [e1, mb_no]
    exact ⟨fun h => absurd rfl h, fun _ => hQ _ rfl⟩
  · rw [e1, mb_so]
    refine ⟨fun _ => ?_, fun h => absurd (by decide) h⟩
    rcases ix_cs x (n := z.2.1.length) (by omega) with ⟨hi, e2⟩ | ⟨j, hj, rfl, e2⟩
    · have hc : F_log z [x, nI k] = (-12, z) := by simp only [F_log, e1, e2]
      rw [hc] at hQ
      rw [e2, mb_no]
      exact ⟨fun h => absurd rfl h, fun _ => hQ _ rfl⟩
    · obtain ⟨a1, a2, a3, a4⟩ := l2 j hj
      have hc : (F_log z [nI j, nI k]).1 = if k = 0 then nI (eA z.2.1 j).1.1 else if k = 1 then (eA z.2.1 j).1.2.1 else if k = 2 then (eA z.2.1 j).1.2.2 else (eA z.2.1 j).2 := by simp only [F_log, e1, e2]
      rw [hc] at hQ
      rw [e2, mb_so, nI_clamp (by omega), a1, a2, a3, a4]
      refine ⟨fun _ => ?_, fun h => absurd (by decide) h⟩
      have v : vp_in (nI j) 90 := vp_in_nI (by omega) (by decide)
      rcases (by omega : k = 0 ∨ k = 1 ∨ k = 2 ∨ k = 3) with rfl | rfl | rfl | rfl
      · exact ⟨fun h => absurd rfl h, fun _ => ⟨v, hQ _ rfl⟩⟩
      · exact ⟨fun _ => ⟨fun h => absurd rfl h, fun _ => ⟨v, hQ _ rfl⟩⟩, fun h => absurd (by decide) h⟩
      · exact ⟨fun _ => ⟨fun _ => ⟨fun h => absurd rfl h, fun _ => ⟨v, hQ _ rfl⟩⟩, fun h => absurd (by decide) h⟩, fun h => absurd (by decide) h⟩
      · exact ⟨fun _ => ⟨fun _ => ⟨fun _ => ⟨v, hQ _ rfl⟩, fun h => absurd (by decide) h⟩, fun h => absurd (by decide) h⟩, fun h => absurd (by decide) h⟩)

theorem ok_X8_log : mOK yX8_log cX8_log 3 (some .int) 2 t_X8_log := mOK.of f_X8_log (by decide) (fun _ => rfl) (fun g => mCodeOK kk_X8_log) (fun g => mFldL fk_RX8 rfl) (fun g idx v h => by cases h) (fun g idx v h => by cases h) (mCalL (l := l_X8_log) (List.forall_mem_cons.mpr ⟨mSite.S (idx := 214) ok_X8_in (by decide) (by decide) wc_X8_in wk_RX8_214 wt_X8_in wn_RX8 wd_X8_in, fun _ h => absurd h List.not_mem_nil⟩) (fun _ => rfl)) run_X8_log

abbrev t_X8_hand : mG → mT := pubM 2 F_hand
theorem mo_X8_hand : mMn t_X8_hand := pubM_mono
theorem rv_X8_hand : mHasR yX8_hand 2 t_X8_hand := pubM_recv rfl
def k_X8_hand : List (Nat × mI) := [(0, .iload_n 1, 1, 1, 0, []),
  (1, .iconst 0, 1, 0, nI 0, []),
  (2, .iconst 3, 1, 0, nI 3, []),
  (3, .invokestatic 214, 3, 0, 0, []),
  (6, .ifCond .eq 12, 3, 18, 0, []),
  (9, .iload_n 2, 1, 2, 0, []),
  (10, .iconst 0, 1, 0, nI 0, []),
  (11, .iconst 2, 1, 0, nI 2, []),
  (12, .invokestatic 214, 3, 0, 0, []),
  (15, .ifCond .ne 6, 3, 21, 0, []),
  (18, .bipush (-2), 2, 0, -2, []),
  (20, .ireturn, 1, 0, 0, []),
  (21, .iload_n 2, 1, 2, 0, []),
  (22, .ifCond .ne 12, 3, 34, 0, []),
  (25, .aload_n 0, 1, 0, 0, []),
  (26, .getfield 27, 3, 0, 0, []),
  (29, .iload_n 1, 1, 1, 0, []),
  (30, .iaload, 1, 0, 0, []),
  (31, .goto 41, 3, 72, 0, []),
  (34, .iload_n 2, 1, 2, 0, []),
  (35, .iconst 1, 1, 0, nI 1, []),
  (36, .if_icmp .ne 12, 3, 48, 0, []),
  (39, .aload_n 0, 1, 0, 0, []),
  (40, .getfield 30, 3, 0, 0, []),
  (43, .iload_n 1, 1, 1, 0, []),
  (44, .iaload, 1, 0, 0, []),
  (45, .goto 27, 3, 72, 0, []),
  (48, .aload_n 0, 1, 0, 0, []),
  (49, .getfield 100, 3, 0, 0, []),
  (52, .iconst 2, 1, 0, nI 2, []),
  (53, .if_icmp .ne 18, 3, 71, 0, []),
  (56, .aload_n 0, 1, 0, 0, []),
  (57, .getfield 103, 3, 0, 0, []),
  (60, .iload_n 1, 1, 1, 0, []),
  (61, .if_icmp .ne 10, 3, 71, 0, []),
  (64, .aload_n 0, 1, 0, 0, []),
  (65, .invokevirtual 201, 3, 0, 0, []),
  (68, .goto 4, 3, 72, 0, []),
  (71, .iconst 0, 1, 0, nI 0, []),
  (72, .ireturn, 1, 0, 0, [])]
theorem kk_X8_hand : (k_X8_hand.all fun e => mChk cX8_hand e.1 e.2) = true := by decide +kernel
def l_X8_hand : List (Nat × Nat × (mG → mT)) := [(3 * 214 + 1, 3, t_X8_in), (3 * 201, 0 + 1, t_X8_mayPlay)]
def f_X8_hand (g : mG) : mF := (mLk k_X8_hand, mLk fl_RX8, mLk (l_X8_hand.map fun e => (e.1, e.2.1, e.2.2 g)), mLk ([] : List (Nat × mV)), mLk ([] : List (Nat × mV)), some .int)
theorem m_X8_hand (g : mG) : mMono (f_X8_hand g) := mMonoL (g := g) (l := l_X8_hand) (List.forall_mem_cons.mpr ⟨mo_X8_in, List.forall_mem_cons.mpr ⟨mo_X8_mayPlay, fun _ h => absurd h List.not_mem_nil⟩⟩) rfl

theorem w_hand (g : mG) (M : mM) (P : mP) (x y : Int32)
    (h : ((fIn x (nI 0) (nI 3)) = 0 → P (some (.inl (-2))) M) ∧ (¬ ((fIn x (nI 0) (nI 3)) = 0) → (¬ (fIn y (nI 0) (nI 2)) = 0 → (¬ y = 0 → (¬ y = (nI 1) → (¬ (M 50 5) = (nI 2) → P (some (.inl (nI 0))) M) ∧ (¬ (¬ (M 50 5) = (nI 2)) → (¬ (M 50 6) = x → P (some (.inl (nI 0))) M) ∧ (¬ (¬ (M 50 6) = x) → ∃ x7 : aX × (Nat → Int32) × List Nat, pre_X8_mayPlay x7 [.inr (some 50)] M ∧ ∀ (r9 : Int32) (M8 : mM), post_X8_mayPlay x7 [.inr (some 50)] M r9 M8 → (P (some (.inl r9)) M8)))) ∧ (¬ (¬ y = (nI 1)) → vp_in x 4 ∧ (P (some (.inl (M 59 x.toNatClampNeg))) M))) ∧ (¬ (¬ y = 0) → vp_in x 4 ∧ (P (some (.inl (M 58 x.toNatClampNeg))) M))) ∧ (¬ (¬ (fIn y (nI 0) (nI 2)) = 0) → P (some (.inl (-2))) M))) :
    mRun (mSx g) (f_X8_hand g) P (0, [some (.inr (some 50)), some (.inl x), some (.inl y)], [], M) := mRun.vc (m_X8_hand g) [] 27 h

theorem run_X8_hand : mRunOf 3 t_X8_hand f_X8_hand := runM2 (by decide) (fun g M P z x y hR hI hP => by
  have hT := hI.T
  have hRT := hR.T
  have hQ : ∀ v, v = (F_hand z [x, y]).1 → P (some (.inl v)) M := fun v e => hP v M e hR FrM.refl
  refine w_hand g M P x y ?_
  rw [fI3, fI2]
  rcases ix_cs x (n := 4) (by decide) with ⟨hx, e1⟩ | ⟨j, hj, rfl, e1⟩
  · rw [show (F_hand z [x, y]).1 = -2 by simp only [F_hand, e1]] at hQ
    rw [e1, mb_no]
    exact ⟨fun _ => hQ _ rfl, fun h => absurd rfl h⟩
  rw [e1, mb_so]
  refine ⟨fun h => absurd h (by decide), fun _ => ?_⟩
  rcases ix_cs y (n := 3) (by decide) with ⟨hy, e2⟩ | ⟨k, hk, rfl, e2⟩
  · rw [show (F_hand z [nI j, y]).1 = -2 by simp only [F_hand, e1, e2]] at hQ
    rw [e2, mb_no]
    exact ⟨fun h => absurd rfl h, fun _ => hQ _ rfl⟩
  rw [show (F_hand z [nI j, nI k]).1 = if k = 0 then aHd (zT z.2.1).2.2.1.2.1 (zT z.2.1).2.2.1.2.2.2.2 j else if k = 1 then (zT z.2.1).2.2.1.2.1 j else pMay (zT z.2.1) j by simp only [F_hand, e1, e2]] at hQ
  rw [e2, mb_so, nI_clamp (by omega)]
  refine ⟨fun _ => ?_, fun h => absurd (by decide) h⟩
  obtain ⟨⟨h1, h2, h3, h4, h5⟩, -, ⟨p19, p58, p59, -⟩, -⟩ := hRT
  have v : vp_in (nI j) 4 := vp_in_nI (by omega) (by decide)
  rcases (by omega : k = 0 ∨ k = 1 ∨ k = 2) with rfl | rfl | rfl
  · exact ⟨fun h => absurd rfl h, fun _ => ⟨v, hQ _ (p58 j hj)⟩⟩
  · exact ⟨fun _ => ⟨fun h => absurd rfl h, fun _ => ⟨v, hQ _ (p59 j hj)⟩⟩, fun h => absurd (by decide) h⟩
  · have hQ2 : ∀ v, v = pMay (zT z.2.1) j → P (some (.inl v)) M := hQ
    rw [h1, h2]
    refine ⟨fun _ => ⟨fun _ => ⟨fun n2 => ?_, fun n2 => ⟨fun nt => ?_, fun nt => ?_⟩⟩, fun h => absurd (by decide) h⟩, fun h => absurd (by decide) h⟩
    · refine hQ2 _ ?_
      unfold pMay
      rw [if_neg (fun w => n2 (by rw [w.1]))]
      rfl
    · have k2 := (nI_at2 hT.1.1 (by decide)).mp (Classical.not_not.mp n2)
      refine hQ2 _ ?_
      unfold pMay
      rw [if_neg (fun w => nt (by rw [turnI_2 k2, w.2]))]
      rfl
    · have k2 := (nI_at2 hT.1.1 (by decide)).mp (Classical.not_not.mp n2)
      have nt' := Classical.not_not.mp nt
      rw [turnI_2 k2] at nt'
      have ht4 := aTn_lt (x := (zT z.2.1).2.2.1.1) (cs := (zT z.2.1).2.2.1.2.2.2.2) (j := (zT z.2.1).2.2.1.2.2.2.2.length)
      have nt2 := (nI_eq (by omega) (by omega)).mp nt'
      obtain ⟨a1, a2, -⟩ := hT.play k2
      refine ⟨((zT z.2.1).2.2.1.1, (zT z.2.1).2.2.1.2.1, (zT z.2.1).2.2.1.2.2.2.2), ⟨rfl, hR.T.Q hT k2, a1, a2⟩, fun r M3 hr => ?_⟩
      obtain ⟨rfl, rfl⟩ := hr
      refine hQ2 _ ?_
      unfold pMay
      rw [if_pos ⟨k2, nt2⟩])

theorem ok_X8_hand : mOK yX8_hand cX8_hand 3 (some .int) 3 t_X8_hand := mOK.of f_X8_hand (by decide) (fun _ => rfl) (fun g => mCodeOK kk_X8_hand) (fun g => mFldL fk_RX8 rfl) (fun g idx v h => by cases h) (fun g idx v h => by cases h) (mCalL (l := l_X8_hand) (List.forall_mem_cons.mpr ⟨mSite.S (idx := 214) ok_X8_in (by decide) (by decide) wc_X8_in wk_RX8_214 wt_X8_in wn_RX8 wd_X8_in, List.forall_mem_cons.mpr ⟨mSite.V (idx := 201) ok_X8_mayPlay (by decide) (by decide) rv_X8_mayPlay wc_X8_mayPlay wk_RX8_201 wi_X8_mayPlay wl_X8_mayPlay wn_RX8 wd_X8_mayPlay, fun _ h => absurd h List.not_mem_nil⟩⟩) (fun _ => rfl)) run_X8_hand

def cSt (c t h : Nat) : Nat → Nat
  | 0 => 0
  | r + 1 => cSt c t h r + (if fStrB (nI (c / 8 * 8 + r)) (nI t) (nI h) < fStrB (nI c) (nI t) (nI h) then 1 else 0)
theorem cSt_8 : ∀ h, h < 4 → ∀ t, t < 5 → ∀ c, c < 32 → nI (cSt c t h 8) = fStr (nI c) (nI t) (nI h) := by decide +kernel
theorem cSt_le (c t h : Nat) : ∀ r, cSt c t h r ≤ r
  | 0 => Nat.le_refl _
  | r + 1 => by
    have := cSt_le c t h r
    rw [cSt]
    split <;> omega
abbrev t_X8_strength : mG → mT := pubM 2 F_strength
theorem mo_X8_strength : mMn t_X8_strength := pubM_mono
theorem rv_X8_strength : mHasR yX8_strength 2 t_X8_strength := pubM_recv rfl
def k_X8_strength : List (Nat × mI) := [(0, .iload_n 1, 1, 1, 0, []),
  (1, .iconst 0, 1, 0, nI 0, []),
  (2, .bipush 31, 2, 0, nI 31, []),
  (4, .invokestatic 214, 3, 0, 0, []),
  (7, .ifCond .eq 12, 3, 19, 0, []),
  (10, .iload_n 2, 1, 2, 0, []),
  (11, .iconst 0, 1, 0, nI 0, []),
  (12, .iconst 4, 1, 0, nI 4, []),
  (13, .invokestatic 214, 3, 0, 0, []),
  (16, .ifCond .ne 6, 3, 22, 0, []),
  (19, .bipush (-2), 2, 0, -2, []),
  (21, .ireturn, 1, 0, 0, []),
  (22, .iconst 0, 1, 0, nI 0, []),
  (23, .istore_n 3, 1, 3, 0, []),
  (24, .iconst 0, 1, 0, nI 0, []),
  (25, .istore 4, 2, 4, 0, []),
  (27, .iload 4, 2, 4, 0, []),
  (29, .bipush 8, 2, 0, nI 8, []),
  (31, .if_icmp .ge 42, 3, 73, 0, []),
  (34, .iload_n 1, 1, 1, 0, []),
  (35, .bipush 8, 2, 0, nI 8, []),
  (37, .idiv, 1, 0, 0, []),
  (38, .bipush 8, 2, 0, nI 8, []),
  (40, .imul, 1, 0, 0, []),
  (41, .iload 4, 2, 4, 0, []),
  (43, .iadd, 1, 0, 0, []),
  (44, .iload_n 2, 1, 2, 0, []),
  (45, .aload_n 0, 1, 0, 0, []),
  (46, .getfield 109, 3, 0, 0, []),
  (49, .invokestatic 122, 3, 0, 0, []),
  (52, .iload_n 1, 1, 1, 0, []),
  (53, .iload_n 2, 1, 2, 0, []),
  (54, .aload_n 0, 1, 0, 0, []),
  (55, .getfield 109, 3, 0, 0, []),
  (58, .invokestatic 122, 3, 0, 0, []),
  (61, .if_icmp .ge 6, 3, 67, 0, []),
  (64, .iinc 3 1, 3, 3, nI 1, []),
  (67, .iinc 4 1, 3, 4, nI 1, []),
  (70, .goto (-43), 3, 27, 0, []),
  (73, .iload_n 3, 1, 3, 0, []),
  (74, .ireturn, 1, 0, 0, [])]
theorem kk_X8_strength : (k_X8_strength.all fun e => mChk cX8_strength e.1 e.2) = true := by decide +kernel
def l_X8_strength : List (Nat × Nat × (mG → mT)) := [(3 * 214 + 1, 3, t_X8_in), (3 * 122 + 1, 3, t_X8_strengthBy)]
def f_X8_strength (g : mG) : mF := (mLk k_X8_strength, mLk fl_RX8, mLk (l_X8_strength.map fun e => (e.1, e.2.1, e.2.2 g)), mLk ([] : List (Nat × mV)), mLk ([] : List (Nat × mV)), some .int)
theorem m_X8_strength (g : mG) : mMono (f_X8_strength g) := mMonoL (g := g) (l := l_X8_strength) (List.forall_mem_cons.mpr ⟨mo_X8_in, List.forall_mem_cons.mpr ⟨mo_X8_strengthBy, fun _ h => absurd h List.not_mem_nil⟩⟩) rfl

theorem w_str_0 (g : mG) (M : mM) (P : mP) (x y : Int32)
    (h : ((fIn x (nI 0) (nI 31)) = 0 → P (some (.inl (-2))) M) ∧ (¬ ((fIn x (nI 0) (nI 31)) = 0) → (¬ (fIn y (nI 0) (nI 4)) = 0 → mRun (mSx g) (f_X8_strength g) P (27, [some (.inr (some 50)), some (.inl x), some (.inl y), some (.inl (nI 0)), some (.inl (nI 0))], [], M)) ∧ (¬ (¬ (fIn y (nI 0) (nI 4)) = 0) → P (some (.inl (-2))) M))) :
    mRun (mSx g) (f_X8_strength g) P (0, [some (.inr (some 50)), some (.inl x), some (.inl y), none, none], [], M) := mRun.vc (m_X8_strength g) [27] 15 h

theorem w_str_27 (g : mG) (M : mM) (P : mP) (x y n r : Int32)
    (h : ((nI 8) ≤ r → P (some (.inl n)) M) ∧ (¬ ((nI 8) ≤ r) → ¬ (nI 8) = 0 ∧ (((fStrB x y (M 50 14)) ≤ (fStrB (((x / (nI 8)) * (nI 8)) + r) y (M 50 14)) → mRun (mSx g) (f_X8_strength g) P (27, [some (.inr (some 50)), some (.inl x), some (.inl y), some (.inl n), some (.inl (r + (nI 1)))], [], M)) ∧ (¬ ((fStrB x y (M 50 14)) ≤ (fStrB (((x / (nI 8)) * (nI 8)) + r) y (M 50 14))) → mRun (mSx g) (f_X8_strength g) P (27, [some (.inr (some 50)), some (.inl x), some (.inl y), some (.inl (n + (nI 1))), some (.inl (r + (nI 1)))], [], M))))) :
    mRun (mSx g) (f_X8_strength g) P (27, [some (.inr (some 50)), some (.inl x), some (.inl y), some (.inl n), some (.inl r)], [], M) := mRun.vc (m_X8_strength g) [27] 24 h

theorem str_loop (g : mG) (M : mM) (P : mP) (c t h : Nat) (hc : c < 32) (h14 : M 50 14 = nI h) (hP : P (some (.inl (nI (cSt c t h 8)))) M) :
    ∀ (n r : Nat), r + n = 8 → mRun (mSx g) (f_X8_strength g) P (27, [some (.inr (some 50)), some (.inl (nI c)), some (.inl (nI t)), some (.inl (nI (cSt c t h r))), some (.inl (nI r))], [], M)
  | 0, r, hr => by
    obtain rfl : r = 8 := by omega
    exact w_str_27 g M P _ _ _ _ ⟨fun _ => hP, fun w => absurd (nI_le (Nat.le_refl 8) (by decide)) w⟩
  | n + 1, r, hr => by
    refine w_str_27 g M P _ _ _ _ ⟨fun w => absurd w (nI_ge (by omega) (by decide)), fun _ => ⟨n8, ?_⟩⟩
    have go := str_loop g M P c t h hc h14 hP n (r + 1) (by omega)
    rw [nI_div8 (by omega), pk_mul, nI_add, h14, nI_add]
    refine ⟨fun w => ?_, fun w => ?_⟩
    · rw [cSt, if_neg (Int32.not_lt.mpr w)] at go
      exact go
    · rw [cSt, if_pos (Int32.not_le.mp w)] at go
      rw [nI_add]
      exact go
theorem run_X8_strength : mRunOf 5 t_X8_strength f_X8_strength := runM2 (by decide) (fun g M P z x y hR hI hP => by
  have hT := hI.T
  have hRT := hR.T
  have hQ : ∀ v, v = (F_strength z [x, y]).1 → P (some (.inl v)) M := fun v e => hP v M e hR FrM.refl
  refine w_str_0 g M P x y ?_
  rw [fI31, fI4]
  rcases ix_cs x (n := 32) (by decide) with ⟨hx, e1⟩ | ⟨j, hj, rfl, e1⟩
  · rw [show (F_strength z [x, y]).1 = -2 by simp only [F_strength, e1]] at hQ
    rw [e1, mb_no]
    exact ⟨fun _ => hQ _ rfl, fun h => absurd rfl h⟩
  rw [e1, mb_so]
  refine ⟨fun h => absurd h (by decide), fun _ => ?_⟩
  rcases ix_cs y (n := 5) (by decide) with ⟨hy, e2⟩ | ⟨k, hk, rfl, e2⟩
  · rw [show (F_strength z [nI j, y]).1 = -2 by simp only [F_strength, e1, e2]] at hQ
    rw [e2, mb_no]
    exact ⟨fun h => absurd rfl h, fun _ => hQ _ rfl⟩
  rw [show (F_strength z [nI j, nI k]).1 = fStr (nI j) (nI k) (nI (zT z.2.1).1.2.2.1) by simp only [F_strength, e1, e2]] at hQ
  rw [e2, mb_so]
  refine ⟨fun _ => ?_, fun h => absurd (by decide) h⟩
  exact str_loop g M P j k (zT z.2.1).1.2.2.1 hj hRT.1.2.2.2.1 (hQ _ (cSt_8 _ hT.1.2.2.1 _ hk _ hj)) 8 0 rfl)

theorem ok_X8_strength : mOK yX8_strength cX8_strength 5 (some .int) 2 t_X8_strength := mOK.of f_X8_strength (by decide) (fun _ => rfl) (fun g => mCodeOK kk_X8_strength) (fun g => mFldL fk_RX8 rfl) (fun g idx v h => by cases h) (fun g idx v h => by cases h) (mCalL (l := l_X8_strength) (List.forall_mem_cons.mpr ⟨mSite.S (idx := 214) ok_X8_in (by decide) (by decide) wc_X8_in wk_RX8_214 wt_X8_in wn_RX8 wd_X8_in, List.forall_mem_cons.mpr ⟨mSite.S (idx := 122) ok_X8_strengthBy (by decide) (by decide) wc_X8_strengthBy wk_RX8_122 wt_X8_strengthBy wn_RX8 wd_X8_strengthBy, fun _ h => absurd h List.not_mem_nil⟩⟩) (fun _ => rfl)) run_X8_strength

abbrev t_X8_taken : mG → mT := pubM 2 F_taken
theorem mo_X8_taken : mMn t_X8_taken := pubM_mono
theorem rv_X8_taken : mHasR yX8_taken 2 t_X8_taken := pubM_recv rfl
def k_X8_taken : List (Nat × mI) := [(0, .iload_n 1, 1, 1, 0, []),
  (1, .iconst 0, 1, 0, nI 0, []),
  (2, .bipush 31, 2, 0, nI 31, []),
  (4, .invokestatic 214, 3, 0, 0, []),
  (7, .ifCond .eq 12, 3, 19, 0, []),
  (10, .iload_n 2, 1, 2, 0, []),
  (11, .iconst 0, 1, 0, nI 0, []),
  (12, .iconst 2, 1, 0, nI 2, []),
  (13, .invokestatic 214, 3, 0, 0, []),
  (16, .ifCond .ne 6, 3, 22, 0, []),
  (19, .bipush (-2), 2, 0, -2, []),
  (21, .ireturn, 1, 0, 0, []),
  (22, .iload_n 1, 1, 1, 0, []),
  (23, .bipush 8, 2, 0, nI 8, []),
  (25, .idiv, 1, 0, 0, []),
  (26, .aload_n 0, 1, 0, 0, []),
  (27, .getfield 82, 3, 0, 0, []),
  (30, .if_icmp .ne 7, 3, 37, 0, []),
  (33, .iconst 1, 1, 0, nI 1, []),
  (34, .goto 4, 3, 38, 0, []),
  (37, .iconst 0, 1, 0, nI 0, []),
  (38, .istore_n 3, 1, 3, 0, []),
  (39, .iload_n 2, 1, 2, 0, []),
  (40, .ifCond .ne 7, 3, 47, 0, []),
  (43, .iload_n 3, 1, 3, 0, []),
  (44, .goto 26, 3, 70, 0, []),
  (47, .iload_n 3, 1, 3, 0, []),
  (48, .ifCond .ne 21, 3, 69, 0, []),
  (51, .iload_n 2, 1, 2, 0, []),
  (52, .iconst 1, 1, 0, nI 1, []),
  (53, .if_icmp .eq 12, 3, 65, 0, []),
  (56, .iload_n 1, 1, 1, 0, []),
  (57, .bipush 8, 2, 0, nI 8, []),
  (59, .irem, 1, 0, 0, []),
  (60, .bipush 7, 2, 0, nI 7, []),
  (62, .if_icmp .ne 7, 3, 69, 0, []),
  (65, .iconst 1, 1, 0, nI 1, []),
  (66, .goto 4, 3, 70, 0, []),
  (69, .iconst 0, 1, 0, nI 0, []),
  (70, .istore 4, 2, 4, 0, []),
  (72, .iload 4, 2, 4, 0, []),
  (74, .ifCond .eq 10, 3, 84, 0, []),
  (77, .iload_n 1, 1, 1, 0, []),
  (78, .bipush 8, 2, 0, nI 8, []),
  (80, .irem, 1, 0, 0, []),
  (81, .goto 5, 3, 86, 0, []),
  (84, .bipush (-13), 2, 0, -13, []),
  (86, .ireturn, 1, 0, 0, [])]
theorem kk_X8_taken : (k_X8_taken.all fun e => mChk cX8_taken e.1 e.2) = true := by decide +kernel
def l_X8_taken : List (Nat × Nat × (mG → mT)) := [(3 * 214 + 1, 3, t_X8_in)]
def f_X8_taken (g : mG) : mF := (mLk k_X8_taken, mLk fl_RX8, mLk (l_X8_taken.map fun e => (e.1, e.2.1, e.2.2 g)), mLk ([] : List (Nat × mV)), mLk ([] : List (Nat × mV)), some .int)
theorem m_X8_taken (g : mG) : mMono (f_X8_taken g) := mMonoL (g := g) (l := l_X8_taken) (List.forall_mem_cons.mpr ⟨mo_X8_in, fun _ h => absurd h List.not_mem_nil⟩) rfl

set_option maxRecDepth 100000 in
theorem w_taken (g : mG) (M : mM) (P : mP) (x y : Int32)
    (h : ((fIn x (nI 0) (nI 31)) = 0 → P (some (.inl (-2))) M) ∧ (¬ ((fIn x (nI 0) (nI 31)) = 0) → (¬ (fIn y (nI 0) (nI 2)) = 0 → ¬ (nI 8) = 0 ∧ ((¬ (x / (nI 8)) = (M 50 9) → (¬ y = 0 → (¬ (nI 0) = 0 → ((nI 0) = 0 → P (some (.inl (-13))) M) ∧ (¬ ((nI 0) = 0) → ¬ (nI 8) = 0 ∧ (P (some (.inl (x - x / (nI 8) * (nI 8)))) M))) ∧ (¬ (¬ (nI 0) = 0) → (y = (nI 1) → ((nI 1) = 0 → P (some (.inl (-13))) M) ∧ (¬ ((nI 1) = 0) → ¬ (nI 8) = 0 ∧ (P (some (.inl (x - x / (nI 8) * (nI 8)))) M))) ∧ (¬ (y = (nI 1)) → ¬ (nI 8) = 0 ∧ ((¬ (x - x / (nI 8) * (nI 8)) = (nI 7) → ((nI 0) = 0 → P (some (.inl (-13))) M) ∧ (¬ ((nI 0) = 0) → ¬ (nI 8) = 0 ∧ (P (some (.inl (x - x / (nI 8) * (nI 8)))) M))) ∧ (¬ (¬ (x - x / (nI 8) * (nI 8)) = (nI 7)) → ((nI 1) = 0 → P (some (.inl (-13))) M) ∧ (¬ ((nI 1) = 0) → ¬ (nI 8) = 0 ∧ (P (some (.inl (x - x / (nI 8) * (nI 8)))) M))))))) ∧ (¬ (¬ y = 0) → ((nI 0) = 0 → P (some (.inl (-13))) M) ∧ (¬ ((nI 0) = 0) → ¬ (nI 8) = 0 ∧ (P (some (.inl (x - x / (nI 8) * (nI 8)))) M)))) ∧ (¬ (¬ (x / (nI 8)) = (M 50 9)) → (¬ y = 0 → (¬ (nI 1) = 0 → ((nI 0) = 0 → P (some (.inl (-13))) M) ∧ (¬ ((nI 0) = 0) → ¬ (nI 8) = 0 ∧ (P (some (.inl (x - x / (nI 8) * (nI 8)))) M))) ∧ (¬ (¬ (nI 1) = 0) → (y = (nI 1) → ((nI 1) = 0 → P (some (.inl (-13))) M) ∧ (¬ ((nI 1) = 0) → ¬ (nI 8) = 0 ∧ (P (some (.inl (x - x / (nI 8) * (nI 8)))) M))) ∧ (¬ (y = (nI 1)) → ¬ (nI 8) = 0 ∧ ((¬ (x - x / (nI 8) * (nI 8)) = (nI 7) → ((nI 0) = 0 → P (some (.inl (-13))) M) ∧ (¬ ((nI 0) = 0) → ¬ (nI 8) = 0 ∧ (P (some (.inl (x - x / (nI 8) * (nI 8)))) M))) ∧ (¬ (¬ (x - x / (nI 8) * (nI 8)) = (nI 7)) → ((nI 1) = 0 → P (some (.inl (-13))) M) ∧ (¬ ((nI 1) = 0) → ¬ (nI 8) = 0 ∧ (P (some (.inl (x - x / (nI 8) * (nI 8)))) M))))))) ∧ (¬ (¬ y = 0) → ((nI 1) = 0 → P (some (.inl (-13))) M) ∧ (¬ ((nI 1) = 0) → ¬ (nI 8) = 0 ∧ (P (some (.inl (x - x / (nI 8) * (nI 8)))) M)))))) ∧ (¬ (¬ (fIn y (nI 0) (nI 2)) = 0) → P (some (.inl (-2))) M))) :
    mRun (mSx g) (f_X8_taken g) P (0, [some (.inr (some 50)), some (.inl x), some (.inl y), none, none], [], M) := mRun.vc (m_X8_taken g) [] 41 h

theorem run_X8_taken : mRunOf 5 t_X8_taken f_X8_taken := runM2 (by decide) (fun g M P z x y hR hI hP => by
  have hRT := hR.T
  have h9 : M 50 9 = trumpI (zT z.2.1) := hRT.2.1.2.1
  have hQ : ∀ v, v = (F_taken z [x, y]).1 → P (some (.inl v)) M := fun v e => hP v M e hR FrM.refl
  refine w_taken g M P x y ?_
  rw [fI31, fI2, h9]
  rcases ix_cs x (n := 32) (by decide) with ⟨hx, e1⟩ | ⟨j, hj, rfl, e1⟩
  · rw [show (F_taken z [x, y]).1 = -2 by simp only [F_taken, e1]] at hQ
    rw [e1, mb_no]
    exact ⟨fun _ => hQ _ rfl, fun h => absurd rfl h⟩
  rw [e1, mb_so]
  refine ⟨fun h => absurd h (by decide), fun _ => ?_⟩
  rcases ix_cs y (n := 3) (by decide) with ⟨hy, e2⟩ | ⟨k, hk, rfl, e2⟩
  · rw [show (F_taken z [nI j, y]).1 = -2 by simp only [F_taken, e1, e2]] at hQ
    rw [e2, mb_no]
    exact ⟨fun h => absurd rfl h, fun _ => hQ _ rfl⟩
  rw [show (F_taken z [nI j, nI k]).1 = if (if k = 0 then nI (j / 8) = trumpI (zT z.2.1) else ¬ nI (j / 8) = trumpI (zT z.2.1) ∧ (k = 1 ∨ j % 8 = 7)) then nI (j % 8) else -13 by simp only [F_taken, e1, e2]] at hQ
  rw [e2, mb_so, show nI j - nI j / nI 8 * nI 8 = nI (j % 8) from pk_rem (by omega) (by decide) (by decide), nI_div8 (by omega)]
  refine ⟨fun _ => ⟨n8, ?_⟩, fun h => absurd (by decide) h⟩
  have n7 : nI (j % 8) = nI 7 ↔ j % 8 = 7 := nI_eq (by omega) (by decide)
  have k0 : nI k = 0 ↔ k = 0 := nI_eq (b := 0) (by omega) (by decide)
  have k1 : nI k = nI 1 ↔ k = 1 := nI_eq (by omega) (by decide)
  rw [n7, k0, k1]
  generalize nI (j / 8) = J at hQ ⊢
  generalize trumpI (zT z.2.1) = U at hQ ⊢
  have yes : ∀ v, (if k = 0 then J = U else ¬ J = U ∧ (k = 1 ∨ j % 8 = 7)) → v = nI (j % 8) → P (some (.inl v)) M := fun v w e => hQ v (by rw [if_pos w]; exact e)
  have no : ¬ (if k = 0 then J = U else ¬ J = U ∧ (k = 1 ∨ j % 8 = 7)) → P (some (.inl (-13))) M := fun w => hQ _ (by rw [if_neg w])
  refine ⟨fun hJ => ⟨fun hk0 => ⟨fun z => absurd rfl z, fun _ => ⟨fun hk1 => ⟨fun z => absurd z (by decide), fun _ => ⟨n8, yes _ ?_ rfl⟩⟩, fun hk1 => ⟨n8, fun h7 => ⟨fun _ => no ?_, fun z => absurd rfl z⟩, fun h7 => ⟨fun z => absurd z (by decide), fun _ => ⟨n8, yes _ ?_ rfl⟩⟩⟩⟩⟩, fun hk0 => ⟨fun _ => no ?_, fun z => absurd rfl z⟩⟩, fun hJ => ⟨fun hk0 => ⟨fun _ => ⟨fun _ => no ?_, fun z => absurd rfl z⟩, fun z => absurd (by decide) z⟩, fun hk0 => ⟨fun z => absurd z (by decide), fun _ => ⟨n8, yes _ ?_ rfl⟩⟩⟩⟩
  · rw [if_neg hk0]
    exact ⟨hJ, Or.inl hk1⟩
  · rw [if_neg hk0]
    exact fun z => z.2.elim hk1 h7
  · rw [if_neg hk0]
    exact ⟨hJ, Or.inr (Classical.not_not.mp h7)⟩
  · rw [if_pos (Classical.not_not.mp hk0)]
    exact hJ
  · rw [if_neg hk0]
    exact fun z => z.1 (Classical.not_not.mp hJ)
  · rw [if_pos (Classical.not_not.mp hk0)]
    exact Classical.not_not.mp hJ)

theorem ok_X8_taken : mOK yX8_taken cX8_taken 5 (some .int) 2 t_X8_taken := mOK.of f_X8_taken (by decide) (fun _ => rfl) (fun g => mCodeOK kk_X8_taken) (fun g => mFldL fk_RX8 rfl) (fun g idx v h => by cases h) (fun g idx v h => by cases h) (mCalL (l := l_X8_taken) (List.forall_mem_cons.mpr ⟨mSite.S (idx := 214) ok_X8_in (by decide) (by decide) wc_X8_in wk_RX8_214 wt_X8_in wn_RX8 wd_X8_in, fun _ h => absurd h List.not_mem_nil⟩) (fun _ => rfl)) run_X8_taken

abbrev t_X8_score : mG → mT := pubM 1 F_score
theorem mo_X8_score : mMn t_X8_score := pubM_mono
theorem rv_X8_score : mHasR yX8_score 1 t_X8_score := pubM_recv rfl
def k_X8_score : List (Nat × mI) := [(0, .iload_n 1, 1, 1, 0, []),
  (1, .invokestatic 353, 3, 0, 0, []),
  (4, .ifCond .ne 6, 3, 10, 0, []),
  (7, .bipush (-2), 2, 0, -2, []),
  (9, .ireturn, 1, 0, 0, []),
  (10, .aload_n 0, 1, 0, 0, []),
  (11, .getfield 118, 3, 0, 0, []),
  (14, .ifCond .eq 26, 3, 40, 0, []),
  (17, .iload_n 1, 1, 1, 0, []),
  (18, .aload_n 0, 1, 0, 0, []),
  (19, .getfield 154, 3, 0, 0, []),
  (22, .aload_n 0, 1, 0, 0, []),
  (23, .getfield 157, 3, 0, 0, []),
  (26, .aload_n 0, 1, 0, 0, []),
  (27, .getfield 160, 3, 0, 0, []),
  (30, .aload_n 0, 1, 0, 0, []),
  (31, .getfield 163, 3, 0, 0, []),
  (34, .invokestatic 166, 3, 0, 0, []),
  (37, .goto 4, 3, 41, 0, []),
  (40, .iconst 0, 1, 0, nI 0, []),
  (41, .ireturn, 1, 0, 0, [])]
theorem kk_X8_score : (k_X8_score.all fun e => mChk cX8_score e.1 e.2) = true := by decide +kernel
def l_X8_score : List (Nat × Nat × (mG → mT)) := [(3 * 353 + 1, 1, t_X8_isHouse), (3 * 166 + 1, 5, t_X8_scored)]
def f_X8_score (g : mG) : mF := (mLk k_X8_score, mLk fl_RX8, mLk (l_X8_score.map fun e => (e.1, e.2.1, e.2.2 g)), mLk ([] : List (Nat × mV)), mLk ([] : List (Nat × mV)), some .int)
theorem m_X8_score (g : mG) : mMono (f_X8_score g) := mMonoL (g := g) (l := l_X8_score) (List.forall_mem_cons.mpr ⟨mo_X8_isHouse, List.forall_mem_cons.mpr ⟨mo_X8_scored, fun _ h => absurd h List.not_mem_nil⟩⟩) rfl

theorem w_score (g : mG) (M : mM) (P : mP) (x : Int32)
    (h : ((fIn x (nI 0) (nI 5)) = 0 ∨ (fIn x (nI 0) (nI 5)) = 1) ∧ ((¬ (fIn x (nI 0) (nI 5)) = 0 → ((M 50 26) = 0 → P (some (.inl (nI 0))) M) ∧ (¬ ((M 50 26) = 0) → P (some (.inl (fScoreB x (M 50 27) (M 50 28) (M 50 29) (M 50 30)))) M)) ∧ (¬ (¬ (fIn x (nI 0) (nI 5)) = 0) → P (some (.inl (-2))) M))) :
    mRun (mSx g) (f_X8_score g) P (0, [some (.inr (some 50)), some (.inl x)], [], M) := mRun.vc (m_X8_score g) [] 18 h

theorem run_X8_score : mRunOf 2 t_X8_score f_X8_score := runM1 (by decide) (fun g M P z x hR hI hP => by
  have hS := hR.T.2.2.2.1
  have hT := hI.T
  have hQ : ∀ v, v = (F_score z [x]).1 → P (some (.inl v)) M := fun v e => hP v M e hR FrM.refl
  refine w_score g M P x ?_
  rw [fI5]
  refine ⟨mb_01, ?_⟩
  rcases ix_cs x (n := 6) (by decide) with ⟨hx, e1⟩ | ⟨j, hj, rfl, e1⟩
  · rw [show (F_score z [x]).1 = -2 by simp only [F_score, e1]] at hQ
    rw [e1, mb_no]
    exact ⟨fun h => absurd rfl h, fun _ => hQ _ rfl⟩
  rw [e1, mb_so]
  refine ⟨fun _ => ?_, fun h => absurd (by decide) h⟩
  obtain ⟨s1, s2, -⟩ := hS
  cases hs : (zT z.2.1).2.2.2.1 with
  | none =>
    rw [show (F_score z [nI j]).1 = 0 by simp only [F_score, e1, hs]] at hQ
    rw [s1, hs]
    exact ⟨fun _ => hQ _ rfl, fun h => absurd rfl h⟩
  | some q =>
    rw [show (F_score z [nI j]).1 = fScore (nI j) (nI q.1) (nI q.2.1) (nI q.2.2.1) (nI q.2.2.2) by simp only [F_score, e1, hs]] at hQ
    obtain ⟨a1, a2, a3, a4⟩ := s2 q hs
    have hd := hT.2.2.2.2.2 q hs
    rw [s1, hs, a1, a2, a3, a4, fScore_B hd]
    exact ⟨fun h => absurd h (show ¬ ((1 : Int32) = 0) by decide), fun _ => hQ _ rfl⟩)

theorem ok_X8_score : mOK yX8_score cX8_score 2 (some .int) 3 t_X8_score := mOK.of f_X8_score (by decide) (fun _ => rfl) (fun g => mCodeOK kk_X8_score) (fun g => mFldL fk_RX8 rfl) (fun g idx v h => by cases h) (fun g idx v h => by cases h) (mCalL (l := l_X8_score) (List.forall_mem_cons.mpr ⟨mSite.S (idx := 353) ok_X8_isHouse (by decide) (by decide) wc_X8_isHouse wk_RX8_353 wt_X8_isHouse wn_RX8 wd_X8_isHouse, List.forall_mem_cons.mpr ⟨mSite.S (idx := 166) ok_X8_scored (by decide) (by decide) wc_X8_scored wk_RX8_166 wt_X8_scored wn_RX8 wd_X8_scored, fun _ h => absurd h List.not_mem_nil⟩⟩) (fun _ => rfl)) run_X8_score

abbrev t_X8_table : mG → mT := pubM 5 F_table
theorem mo_X8_table : mMn t_X8_table := pubM_mono
theorem rv_X8_table : mHasR yX8_table 5 t_X8_table := pubM_recv rfl
def k_X8_table : List (Nat × mI) := [(0, .iload_n 1, 1, 1, 0, []),
  (1, .invokestatic 353, 3, 0, 0, []),
  (4, .ifCond .eq 56, 3, 60, 0, []),
  (7, .iload_n 2, 1, 2, 0, []),
  (8, .iconst 0, 1, 0, nI 0, []),
  (9, .bipush 8, 2, 0, nI 8, []),
  (11, .invokestatic 214, 3, 0, 0, []),
  (14, .ifCond .eq 46, 3, 60, 0, []),
  (17, .iload_n 3, 1, 3, 0, []),
  (18, .iconst 4, 1, 0, nI 4, []),
  (19, .bipush 8, 2, 0, nI 8, []),
  (21, .invokestatic 214, 3, 0, 0, []),
  (24, .ifCond .eq 36, 3, 60, 0, []),
  (27, .iload 4, 2, 4, 0, []),
  (29, .iconst 0, 1, 0, nI 0, []),
  (30, .iconst 4, 1, 0, nI 4, []),
  (31, .invokestatic 214, 3, 0, 0, []),
  (34, .ifCond .eq 26, 3, 60, 0, []),
  (37, .iload 5, 2, 5, 0, []),
  (39, .iconst 0, 1, 0, nI 0, []),
  (40, .iconst 2, 1, 0, nI 2, []),
  (41, .invokestatic 214, 3, 0, 0, []),
  (44, .ifCond .eq 16, 3, 60, 0, []),
  (47, .iload_n 1, 1, 1, 0, []),
  (48, .iload_n 2, 1, 2, 0, []),
  (49, .iload_n 3, 1, 3, 0, []),
  (50, .iload 4, 2, 4, 0, []),
  (52, .iload 5, 2, 5, 0, []),
  (54, .invokestatic 166, 3, 0, 0, []),
  (57, .goto 5, 3, 62, 0, []),
  (60, .bipush (-2), 2, 0, -2, []),
  (62, .ireturn, 1, 0, 0, [])]
theorem kk_X8_table : (k_X8_table.all fun e => mChk cX8_table e.1 e.2) = true := by decide +kernel
def l_X8_table : List (Nat × Nat × (mG → mT)) := [(3 * 353 + 1, 1, t_X8_isHouse), (3 * 214 + 1, 3, t_X8_in), (3 * 166 + 1, 5, t_X8_scored)]
def f_X8_table (g : mG) : mF := (mLk k_X8_table, mLk fl_RX8, mLk (l_X8_table.map fun e => (e.1, e.2.1, e.2.2 g)), mLk ([] : List (Nat × mV)), mLk ([] : List (Nat × mV)), some .int)
theorem m_X8_table (g : mG) : mMono (f_X8_table g) := mMonoL (g := g) (l := l_X8_table) (List.forall_mem_cons.mpr ⟨mo_X8_isHouse, List.forall_mem_cons.mpr ⟨mo_X8_in, List.forall_mem_cons.mpr ⟨mo_X8_scored, fun _ h => absurd h List.not_mem_nil⟩⟩⟩) rfl

theorem fIn_4 (b : Int32) : fIn b (nI 4) (nI 8) = mb ((ix (b - nI 4) 5).isSome = true) := by
  unfold fIn
  refine mb_congr ?_
  rcases ix_cs (b - nI 4) (n := 5) (by decide) with ⟨h, e⟩ | ⟨j, hj, h, e⟩
  · rw [e]
    refine ⟨fun w => ?_, fun w => by cases w⟩
    exfalso
    rcases pk_ix b (n := 9) (by decide) with h1 | h1 | ⟨i, hi, rfl⟩
    · have := w.1
      simp (disch := omega) only [fa_lt, fa_le, nI_toInt, Int32.toInt_zero] at h1 this
      omega
    · have := w.2
      simp (disch := omega) only [fa_lt, fa_le, nI_toInt, Int32.toInt_zero] at h1 this
      omega
    · have h4 := (nI_leI (by decide) (by omega)).mp w.1
      rw [pk_sub h4, ix_at (by omega) (by decide)] at e
      cases e
  · rw [e]
    refine ⟨fun _ => rfl, fun _ => ?_⟩
    have hb : b = nI (j + 4) := by
      rw [← nI_add, ← h]
      exact (Int32.sub_add_cancel b (nI 4)).symm
    rw [hb]
    exact ⟨nI_le (by omega) (by omega), nI_le (by omega) (by decide)⟩
theorem w_table (g : mG) (M : mM) (P : mP) (x y u v w : Int32)
    (h : ((fIn x (nI 0) (nI 5)) = 0 ∨ (fIn x (nI 0) (nI 5)) = 1) ∧ (((fIn x (nI 0) (nI 5)) = 0 → P (some (.inl (-2))) M) ∧ (¬ ((fIn x (nI 0) (nI 5)) = 0) → ((fIn y (nI 0) (nI 8)) = 0 → P (some (.inl (-2))) M) ∧ (¬ ((fIn y (nI 0) (nI 8)) = 0) → ((fIn u (nI 4) (nI 8)) = 0 → P (some (.inl (-2))) M) ∧ (¬ ((fIn u (nI 4) (nI 8)) = 0) → ((fIn v (nI 0) (nI 4)) = 0 → P (some (.inl (-2))) M) ∧ (¬ ((fIn v (nI 0) (nI 4)) = 0) → ((fIn w (nI 0) (nI 2)) = 0 → P (some (.inl (-2))) M) ∧ (¬ ((fIn w (nI 0) (nI 2)) = 0) → P (some (.inl (fScoreB x y u v w))) M))))))) :
    mRun (mSx g) (f_X8_table g) P (0, [some (.inr (some 50)), some (.inl x), some (.inl y), some (.inl u), some (.inl v), some (.inl w)], [], M) := mRun.vc (m_X8_table g) [] 31 h

theorem run_X8_table : mRunOf 6 t_X8_table f_X8_table := runM5 (by decide) (fun g M P z x y u v w hR hI hP => by
  have hQ : ∀ r, r = (F_table z [x, y, u, v, w]).1 → P (some (.inl r)) M := fun r e => hP r M e hR FrM.refl
  refine w_table g M P x y u v w ?_
  rw [fI5, fI8, fIn_4, fI4, fI2]
  refine ⟨mb_01, ?_⟩
  rcases ix_cs x (n := 6) (by decide) with ⟨-, e1⟩ | ⟨h, hh, rfl, e1⟩
  · rw [show (F_table z [x, y, u, v, w]).1 = -2 by simp only [F_table, e1]] at hQ
    rw [e1, mb_no]
    exact ⟨fun _ => hQ _ rfl, fun h => absurd rfl h⟩
  rw [e1, mb_so]
  refine ⟨fun h => absurd h (by decide), fun _ => ?_⟩
  rcases ix_cs y (n := 9) (by decide) with ⟨-, e2⟩ | ⟨m, hm, rfl, e2⟩
  · rw [show (F_table z [nI h, y, u, v, w]).1 = -2 by simp only [F_table, e1, e2]] at hQ
    rw [e2, mb_no]
    exact ⟨fun _ => hQ _ rfl, fun h => absurd rfl h⟩
  rw [e2, mb_so]
  refine ⟨fun h => absurd h (by decide), fun _ => ?_⟩
  rcases ix_cs (u - nI 4) (n := 5) (by decide) with ⟨-, e3⟩ | ⟨b, hb, hub, e3⟩
  · rw [show (F_table z [nI h, nI m, u, v, w]).1 = -2 by simp only [F_table, e1, e2, e3]] at hQ
    rw [e3, mb_no]
    exact ⟨fun _ => hQ _ rfl, fun h => absurd rfl h⟩
  have hu : u = nI (b + 4) := by
    rw [← nI_add, ← hub]
    exact (Int32.sub_add_cancel u (nI 4)).symm
  rw [e3, mb_so]
  refine ⟨fun h => absurd h (by decide), fun _ => ?_⟩
  rcases ix_cs v (n := 5) (by decide) with ⟨-, e4⟩ | ⟨t, ht, rfl, e4⟩
  · rw [show (F_table z [nI h, nI m, u, v, w]).1 = -2 by simp only [F_table, e1, e2, e3, e4]] at hQ
    rw [e4, mb_no]
    exact ⟨fun _ => hQ _ rfl, fun h => absurd rfl h⟩
  rw [e4, mb_so]
  refine ⟨fun h => absurd h (by decide), fun _ => ?_⟩
  rcases ix_cs w (n := 3) (by decide) with ⟨-, e5⟩ | ⟨d, hd, rfl, e5⟩
  · rw [show (F_table z [nI h, nI m, u, nI t, w]).1 = -2 by simp only [F_table, e1, e2, e3, e4, e5]] at hQ
    rw [e5, mb_no]
    exact ⟨fun _ => hQ _ rfl, fun h => absurd rfl h⟩
  rw [show (F_table z [nI h, nI m, u, nI t, nI d]).1 = fScore (nI h) (nI m) (nI (b + 4)) (nI t) (nI d) by simp only [F_table, e1, e2, e3, e4, e5]] at hQ
  rw [e5, mb_so, hu, fScore_B (by omega)]
  exact ⟨fun h => absurd h (by decide), fun _ => hQ _ rfl⟩)

theorem ok_X8_table : mOK yX8_table cX8_table 6 (some .int) 3 t_X8_table := mOK.of f_X8_table (by decide) (fun _ => rfl) (fun g => mCodeOK kk_X8_table) (fun g => mFldL fk_RX8 rfl) (fun g idx v h => by cases h) (fun g idx v h => by cases h) (mCalL (l := l_X8_table) (List.forall_mem_cons.mpr ⟨mSite.S (idx := 353) ok_X8_isHouse (by decide) (by decide) wc_X8_isHouse wk_RX8_353 wt_X8_isHouse wn_RX8 wd_X8_isHouse, List.forall_mem_cons.mpr ⟨mSite.S (idx := 214) ok_X8_in (by decide) (by decide) wc_X8_in wk_RX8_214 wt_X8_in wn_RX8 wd_X8_in, List.forall_mem_cons.mpr ⟨mSite.S (idx := 166) ok_X8_scored (by decide) (by decide) wc_X8_scored wk_RX8_166 wt_X8_scored wn_RX8 wd_X8_scored, fun _ h => absurd h List.not_mem_nil⟩⟩⟩) (fun _ => rfl)) run_X8_table

abbrev t_X8_total : mG → mT := pubM 2 F_total
theorem mo_X8_total : mMn t_X8_total := pubM_mono
theorem rv_X8_total : mHasR yX8_total 2 t_X8_total := pubM_recv rfl
def k_X8_total : List (Nat × mI) := [(0, .iload_n 1, 1, 1, 0, []),
  (1, .iconst 0, 1, 0, nI 0, []),
  (2, .iconst 1, 1, 0, nI 1, []),
  (3, .invokestatic 214, 3, 0, 0, []),
  (6, .ifCond .eq 21, 3, 27, 0, []),
  (9, .iload_n 2, 1, 2, 0, []),
  (10, .invokestatic 353, 3, 0, 0, []),
  (13, .ifCond .eq 14, 3, 27, 0, []),
  (16, .aload_n 0, 1, 0, 0, []),
  (17, .getfield 48, 3, 0, 0, []),
  (20, .iload_n 1, 1, 1, 0, []),
  (21, .aaload, 1, 1, 0, []),
  (22, .iload_n 2, 1, 2, 0, []),
  (23, .iaload, 1, 1, 0, []),
  (24, .goto 5, 3, 29, 0, []),
  (27, .bipush (-2), 2, 0, -2, []),
  (29, .ireturn, 1, 0, 0, [])]
theorem kk_X8_total : (k_X8_total.all fun e => mChk cX8_total e.1 e.2) = true := by decide +kernel
def l_X8_total : List (Nat × Nat × (mG → mT)) := [(3 * 214 + 1, 3, t_X8_in), (3 * 353 + 1, 1, t_X8_isHouse)]
def f_X8_total (g : mG) : mF := (mLk k_X8_total, mLk fl_RX8, mLk (l_X8_total.map fun e => (e.1, e.2.1, e.2.2 g)), mLk ([] : List (Nat × mV)), mLk ([] : List (Nat × mV)), some .int)
theorem m_X8_total (g : mG) : mMono (f_X8_total g) := mMonoL (g := g) (l := l_X8_total) (List.forall_mem_cons.mpr ⟨mo_X8_in, List.forall_mem_cons.mpr ⟨mo_X8_isHouse, fun _ h => absurd h List.not_mem_nil⟩⟩) rfl

theorem w_total (g : mG) (M : mM) (P : mP) (x y : Int32)
    (h : ((fIn x (nI 0) (nI 1)) = 0 → P (some (.inl (-2))) M) ∧ (¬ ((fIn x (nI 0) (nI 1)) = 0) → ((fIn y (nI 0) (nI 5)) = 0 ∨ (fIn y (nI 0) (nI 5)) = 1) ∧ (((fIn y (nI 0) (nI 5)) = 0 → P (some (.inl (-2))) M) ∧ (¬ ((fIn y (nI 0) (nI 5)) = 0) → ∃ (n3 k4 c5 : Nat) (rs6 : List (Option Nat)), (mSx g)[73]? = some (1, n3, rs6) ∧ x = nI k4 ∧ k4 < n3 ∧ n3 < 2 ^ 31 ∧ rs6[k4]? = some (some c5) ∧ (∃ (n7 : Nat) (rs8 : List (Option Nat)), (mSx g)[c5]? = some (0, n7, rs8) ∧ vp_in y n7 ∧ (P (some (.inl (M c5 y.toNatClampNeg))) M)))))) :
    mRun (mSx g) (f_X8_total g) P (0, [some (.inr (some 50)), some (.inl x), some (.inl y)], [], M) := mRun.vc (m_X8_total g) [] 16 h

theorem run_X8_total : mRunOf 3 t_X8_total f_X8_total := runM2 (by decide) (fun g M P z x y hR hI hP => by
  have hS := hR.T.2.2.2.1
  have hQ : ∀ v, v = (F_total z [x, y]).1 → P (some (.inl v)) M := fun v e => hP v M e hR FrM.refl
  refine w_total g M P x y ?_
  rw [fI1, fI5]
  rcases ix_cs x (n := 2) (by decide) with ⟨hx, e1⟩ | ⟨k, hk, rfl, e1⟩
  · rw [show (F_total z [x, y]).1 = -2 by simp only [F_total, e1]] at hQ
    rw [e1, mb_no]
    exact ⟨fun _ => hQ _ rfl, fun h => absurd rfl h⟩
  rw [e1, mb_so]
  refine ⟨fun h => absurd h (by decide), fun _ => ⟨mb_01, ?_⟩⟩
  rcases ix_cs y (n := 6) (by decide) with ⟨hy, e2⟩ | ⟨j, hj, rfl, e2⟩
  · rw [show (F_total z [nI k, y]).1 = -2 by simp only [F_total, e1, e2]] at hQ
    rw [e2, mb_no]
    exact ⟨fun _ => hQ _ rfl, fun h => absurd rfl h⟩
  rw [show (F_total z [nI k, nI j]).1 = (zT z.2.1).2.2.2.2 (6 * k + j) by simp only [F_total, e1, e2]] at hQ
  rw [e2, mb_so]
  refine ⟨fun h => absurd h (by decide), fun _ => rr_at (i := k) o_totals (by decide) hk (ri_at o_totals hk hj (by decide) ?_)⟩
  rw [nI_clamp (by omega)]
  exact hQ _ (hS.2.2 k j hk hj))

theorem ok_X8_total : mOK yX8_total cX8_total 3 (some .int) 3 t_X8_total := mOK.of f_X8_total (by decide) (fun _ => rfl) (fun g => mCodeOK kk_X8_total) (fun g => mFldL fk_RX8 rfl) (fun g idx v h => by cases h) (fun g idx v h => by cases h) (mCalL (l := l_X8_total) (List.forall_mem_cons.mpr ⟨mSite.S (idx := 214) ok_X8_in (by decide) (by decide) wc_X8_in wk_RX8_214 wt_X8_in wn_RX8 wd_X8_in, List.forall_mem_cons.mpr ⟨mSite.S (idx := 353) ok_X8_isHouse (by decide) (by decide) wc_X8_isHouse wk_RX8_353 wt_X8_isHouse wn_RX8 wd_X8_isHouse, fun _ h => absurd h List.not_mem_nil⟩⟩) (fun _ => rfl)) run_X8_total

