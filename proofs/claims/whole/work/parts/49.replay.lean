/-! ===== CLASS TrickHouse: image, back, replay ===== -/
def k_X0_become : List (Nat × mI) := [(0, .aload_n 1, 1, 1, 0, []),
  (1, .getfield 9, 3, 0, 0, []),
  (4, .aload_n 0, 1, 0, 0, []),
  (5, .getfield 9, 3, 0, 0, []),
  (8, .invokestatic 32, 3, 0, 0, []),
  (11, .aload_n 1, 1, 1, 0, []),
  (12, .getfield 15, 3, 0, 0, []),
  (15, .aload_n 0, 1, 0, 0, []),
  (16, .getfield 15, 3, 0, 0, []),
  (19, .invokestatic 32, 3, 0, 0, []),
  (22, .aload_n 1, 1, 1, 0, []),
  (23, .getfield 18, 3, 0, 0, []),
  (26, .aload_n 0, 1, 0, 0, []),
  (27, .getfield 18, 3, 0, 0, []),
  (30, .invokestatic 32, 3, 0, 0, []),
  (33, .aload_n 1, 1, 1, 0, []),
  (34, .getfield 21, 3, 0, 0, []),
  (37, .aload_n 0, 1, 0, 0, []),
  (38, .getfield 21, 3, 0, 0, []),
  (41, .invokestatic 32, 3, 0, 0, []),
  (44, .aload_n 0, 1, 0, 0, []),
  (45, .aload_n 1, 1, 1, 0, []),
  (46, .getfield 24, 3, 0, 0, []),
  (49, .putfield 24, 3, 0, 0, []),
  (52, .return_, 1, 0, 0, [])]
theorem kk_X0_become : (k_X0_become.all fun e => mChk cX0_become e.1 e.2) = true := by decide +kernel
def l_X0_become : List (Nat × Nat × (mG → mT)) := [(3 * 32 + 1, 2, t_X7_take)]
def f_X0_become (g : mG) : mF := (mLk k_X0_become, mLk fl_RX0, mLk (l_X0_become.map fun e => (e.1, e.2.1, e.2.2 g)), mLk ([] : List (Nat × mV)), mLk ([] : List (Nat × mV)), none)
theorem m_X0_become (g : mG) : mMono (f_X0_become g) := mMonoL (g := g) (l := l_X0_become) (List.forall_mem_cons.mpr ⟨mo_X7_take, fun _ h => absurd h List.not_mem_nil⟩) rfl
def t_X0_become : mG → mT := mIV pl_X0 f_X0_become 2 26
theorem mo_X0_become : mMn t_X0_become := mIV_mono m_X0_become
theorem rv_X0_become : mHasR yX0_become 1 t_X0_become := mIV_recv is_X0
theorem ok_X0_become : mOK yX0_become cX0_become 2 (none) 2 t_X0_become := mOK.of f_X0_become (by decide) (fun _ => rfl) (fun g => mCodeOK kk_X0_become) (fun g => mFldL fk_RX0 rfl) (fun g idx v h => by cases h) (fun g idx v h => by cases h) (mCalL (l := l_X0_become) (List.forall_mem_cons.mpr ⟨mSite.SN (idx := 32) ok_X7_take (by decide) (by decide) wc_X7_take wm_RX0_32 wt_X7_take wn_RX7 wd_X7_take, fun _ h => absurd h List.not_mem_nil⟩) (fun _ => rfl)) (mIV_run m_X0_become)

def F_image (z : aZ) (as : List Int32) : Int32 × aZ := match as with
  | [] => (nI z.2.1.length, z.1, z.2.1, some z.2.1, z.2.2.2)
  | _ => (0, z)
theorem RpL_take {c d : Nat} {M M' : mM} {l : List aE} (h : RpL c M l) (hl : l.length ≤ 90) (e4 : M' d 4 = M c 4) (e : ∀ k, 0 < k → k < 5 → M' (d + k) = va_cpy (M (c + k)) (M (d + k)) 0 0 90) : RpL d M' l := by
  refine ⟨e4.trans h.1, fun i hi => ?_⟩
  have q : ∀ k, 0 < k → k < 5 → M' (d + k) i = M (c + k) i := fun k h1 h2 => by
    rw [e k h1 h2]
    exact cpy_0 (by omega)
  rw [q 1 (by decide) (by decide), q 2 (by decide) (by decide), q 3 (by decide) (by decide), q 4 (by decide) (by decide)]
  exact h.2 i hi
abbrev t_X7_image : mG → mT := pub 0 F_image
theorem mo_X7_image : mMn t_X7_image := pub_mono
theorem rv_X7_image : mHasR yX7_image 0 t_X7_image := pub_recv rfl
def k_X7_image : List (Nat × mI) := [(0, .aload_n 0, 1, 0, 0, []),
  (1, .getfield 23, 3, 0, 0, []),
  (4, .aload_n 0, 1, 0, 0, []),
  (5, .getfield 19, 3, 0, 0, []),
  (8, .invokevirtual 275, 3, 0, 0, []),
  (11, .aload_n 0, 1, 0, 0, []),
  (12, .iconst 1, 1, 0, nI 1, []),
  (13, .putfield 278, 3, 0, 0, []),
  (16, .aload_n 0, 1, 0, 0, []),
  (17, .getfield 23, 3, 0, 0, []),
  (20, .getfield 96, 3, 0, 0, []),
  (23, .ireturn, 1, 0, 0, [])]
theorem kk_X7_image : (k_X7_image.all fun e => mChk cX7_image e.1 e.2) = true := by decide +kernel
def l_X7_image : List (Nat × Nat × (mG → mT)) := [(3 * 275, 1 + 1, t_X0_become)]
def f_X7_image (g : mG) : mF := (mLk k_X7_image, mLk fl_RX7, mLk (l_X7_image.map fun e => (e.1, e.2.1, e.2.2 g)), mLk ([] : List (Nat × mV)), mLk ([] : List (Nat × mV)), some .int)
theorem m_X7_image (g : mG) : mMono (f_X7_image g) := mMonoL (g := g) (l := l_X7_image) (List.forall_mem_cons.mpr ⟨mo_X0_become, fun _ h => absurd h List.not_mem_nil⟩) rfl

theorem v_image (g : mG) (M : mM) (P : mP) 
    (h : let M1 : mM := mUp M 9 (va_cpy (M 4) (M 9) 0 0 90); let M2 : mM := mUp M1 10 (va_cpy (M 5) (M 10) 0 0 90); let M3 : mM := mUp M2 11 (va_cpy (M 6) (M 11) 0 0 90); let M4 : mM := mUp M3 12 (va_cpy (M 7) (M 12) 0 0 90); let M5 : mM := mW1 M4 8 4 (M 3 4); ((nI 1) = 0 ∨ (nI 1) = 1) ∧ (let M6 : mM := mW1 M5 0 7 (nI 1); P (some (.inl (M 3 4))) M6)) :
    mRun (mSx g) (f_X7_image g) P (0, [some (.inr (some 0))], [], M) := mRun.vc (m_X7_image g) [] 12 h

set_option maxRecDepth 100000 in
theorem run_X7_image : mRunOf 1 t_X7_image f_X7_image := runC0 (by decide) (fun g M P z hR hI hP => by
  have hR' := hR
  obtain ⟨h1, h2, h3, h4, h5, h6⟩ := hR'
  have hlen := hI.2.1.1
  refine v_image g M P ?_
  intro M1 M2 M3 M4 M5
  refine ⟨Or.inr rfl, ?_⟩
  intro M6
  have f : ∀ c, c ≠ 0 → c ≠ 8 → c ≠ 9 → c ≠ 10 → c ≠ 11 → c ≠ 12 → M6 c = M c := fun c a0 a8 a9 a10 a11 a12 => by
    show mW1 (mW1 (mUp (mUp (mUp (mUp M 9 _) 10 _) 11 _) 12 _) 8 4 _) 0 7 _ c = _
    rw [mW1_c a0, mW1_c a8, mUp_ne a12, mUp_ne a11, mUp_ne a10, mUp_ne a9]
  have e9 : M6 9 = va_cpy (M 4) (M 9) 0 0 90 := by
    show mW1 (mW1 (mUp (mUp (mUp (mUp M 9 _) 10 _) 11 _) 12 _) 8 4 _) 0 7 _ 9 = _
    rw [mW1_c (by decide), mW1_c (by decide), mUp_ne (by decide), mUp_ne (by decide), mUp_ne (by decide), mUp_at]
  have e10 : M6 10 = va_cpy (M 5) (M 10) 0 0 90 := by
    show mW1 (mW1 (mUp (mUp (mUp M1 10 _) 11 _) 12 _) 8 4 _) 0 7 _ 10 = _
    rw [mW1_c (by decide), mW1_c (by decide), mUp_ne (by decide), mUp_ne (by decide), mUp_at]
  have e11 : M6 11 = va_cpy (M 6) (M 11) 0 0 90 := by
    show mW1 (mW1 (mUp (mUp M2 11 _) 12 _) 8 4 _) 0 7 _ 11 = _
    rw [mW1_c (by decide), mW1_c (by decide), mUp_ne (by decide), mUp_at]
  have e12 : M6 12 = va_cpy (M 7) (M 12) 0 0 90 := by
    show mW1 (mW1 (mUp M3 12 _) 8 4 _) 0 7 _ 12 = _
    rw [mW1_c (by decide), mW1_c (by decide), mUp_at]
  have e8 : M6 8 4 = M 3 4 := by
    show mW1 (mW1 M4 8 4 (M 3 4)) 0 7 _ 8 4 = _
    rw [mW1_c (by decide), mW1_s]
  have hL8 : RpL 8 M6 z.2.1 := RpL_take (c := 3) h2 hlen e8 (fun k h1 h2 => by
    rcases (by omega : k = 1 ∨ k = 2 ∨ k = 3 ∨ k = 4) with rfl | rfl | rfl | rfl
    · exact e9
    · exact e10
    · exact e11
    · exact e12)
  have e07 : M6 0 7 = 1 := mW1_s
  refine hP _ M6 (e8.trans h2.1) (RpC_log hR (RpL_fr h2 (fun k hk => f _ (by omega) (by omega) (by omega) (by omega) (by omega) (by omega))) ⟨e07, fun l hl => by cases hl; exact hL8⟩ (RpT_fr h4 (fun k hk => f _ (by omega) (by omega) (by omega) (by omega) (by omega) (by omega))) (fun c hc => f _ (by omega) (by omega) (by omega) (by omega) (by omega) (by omega))) (fun c hc => f _ (by omega) (by omega) (by omega) (by omega) (by omega) (by omega)))

theorem ok_X7_image : mOK yX7_image cX7_image 1 (some .int) 3 t_X7_image := mOK.of f_X7_image (by decide) (fun _ => rfl) (fun g => mCodeOK kk_X7_image) (fun g => mFldL fk_RX7 rfl) (fun g idx v h => by cases h) (fun g idx v h => by cases h) (mCalL (l := l_X7_image) (List.forall_mem_cons.mpr ⟨mSite.V (idx := 275) ok_X0_become (by decide) (by decide) rv_X0_become wc_X0_become wk_RX7_275 wi_X0_become wl_X0_become wn_RX0 wd_X0_become, fun _ h => absurd h List.not_mem_nil⟩) (fun _ => rfl)) run_X7_image

def F_back (z : aZ) (as : List Int32) : Int32 × aZ := match as with
  | [] => match z.2.2.1 with
    | none => (-3, z)
    | some l => (nI l.length, z.1, l, some l, z.2.2.2)
  | _ => (0, z)
theorem F_back_0 {z : aZ} (h : z.2.2.1 = none) : F_back z [] = (-3, z) := by
  unfold F_back
  rw [h]
theorem F_back_s {z : aZ} {l : List aE} (h : z.2.2.1 = some l) : F_back z [] = (nI l.length, z.1, l, some l, z.2.2.2) := by
  unfold F_back
  rw [h]
abbrev t_X7_back : mG → mT := pub 0 F_back
theorem mo_X7_back : mMn t_X7_back := pub_mono
theorem rv_X7_back : mHasR yX7_back 0 t_X7_back := pub_recv rfl
def k_X7_back : List (Nat × mI) := [(0, .aload_n 0, 1, 0, 0, []),
  (1, .getfield 278, 3, 0, 0, []),
  (4, .ifCond .ne 6, 3, 10, 0, []),
  (7, .bipush (-3), 2, 0, -3, []),
  (9, .ireturn, 1, 0, 0, []),
  (10, .aload_n 0, 1, 0, 0, []),
  (11, .getfield 19, 3, 0, 0, []),
  (14, .aload_n 0, 1, 0, 0, []),
  (15, .getfield 23, 3, 0, 0, []),
  (18, .invokevirtual 275, 3, 0, 0, []),
  (21, .aload_n 0, 1, 0, 0, []),
  (22, .aload_n 0, 1, 0, 0, []),
  (23, .getfield 29, 3, 0, 0, []),
  (26, .aload_n 0, 1, 0, 0, []),
  (27, .getfield 19, 3, 0, 0, []),
  (30, .getfield 96, 3, 0, 0, []),
  (33, .invokevirtual 99, 3, 0, 0, []),
  (36, .aload_n 0, 1, 0, 0, []),
  (37, .getfield 19, 3, 0, 0, []),
  (40, .getfield 96, 3, 0, 0, []),
  (43, .ireturn, 1, 0, 0, [])]
theorem kk_X7_back : (k_X7_back.all fun e => mChk cX7_back e.1 e.2) = true := by decide +kernel
def l_X7_back : List (Nat × Nat × (mG → mT)) := [(3 * 275, 1 + 1, t_X0_become), (3 * 99, 2 + 1, t_X7_goThrough)]
def f_X7_back (g : mG) : mF := (mLk k_X7_back, mLk fl_RX7, mLk (l_X7_back.map fun e => (e.1, e.2.1, e.2.2 g)), mLk ([] : List (Nat × mV)), mLk ([] : List (Nat × mV)), some .int)
theorem m_X7_back (g : mG) : mMono (f_X7_back g) := mMonoL (g := g) (l := l_X7_back) (List.forall_mem_cons.mpr ⟨mo_X0_become, List.forall_mem_cons.mpr ⟨mo_X7_goThrough, fun _ h => absurd h List.not_mem_nil⟩⟩) rfl

theorem v_back (g : mG) (M : mM) (P : mP) 
    (h : (¬ (M 0 7) = 0 → let M2 : mM := mUp M 4 (va_cpy (M 9) (M 4) 0 0 90); let M3 : mM := mUp M2 5 (va_cpy (M 10) (M 5) 0 0 90); let M4 : mM := mUp M3 6 (va_cpy (M 11) (M 6) 0 0 90); let M5 : mM := mUp M4 7 (va_cpy (M 12) (M 7) 0 0 90); let M6 : mM := mW1 M5 3 4 (M 8 4); ∃ x7 : Nat × Nat × List aE, pre_X7_goThrough x7 [.inr (some 0), .inr (some 13), .inl (M 8 4)] M6 ∧ ∀ M8 : mM, post_X7_goThrough x7 [.inr (some 0), .inr (some 13), .inl (M 8 4)] M6 M8 → (P (some (.inl (M8 3 4))) M8)) ∧ (¬ (¬ (M 0 7) = 0) → P (some (.inl (-3))) M)) :
    mRun (mSx g) (f_X7_back g) P (0, [some (.inr (some 0))], [], M) := mRun.vc (m_X7_back g) [] 19 h

set_option maxRecDepth 100000 in
theorem run_X7_back : mRunOf 1 t_X7_back f_X7_back := runC0 (by decide) (fun g M P z hR hI hP => by
  have hR' := hR
  obtain ⟨h1, h2, h3, h4, h5, h6⟩ := hR'
  have e07 := h3.1
  refine v_back g M P ?_
  cases hn : z.2.2.1 with
  | none =>
    rw [F_back_0 hn] at hP
    rw [hn] at e07
    exact ⟨fun h => absurd e07 h, fun _ => hP _ _ rfl hR FrC.refl⟩
  | some l =>
    rw [F_back_s hn] at hP
    rw [hn] at e07
    have e07' : M 0 7 = 1 := e07
    have hL := h3.2 l hn
    have hlI := hI.2.2.1 l hn
    refine ⟨fun _ => ?_, fun h => absurd (by rw [e07']; decide) h⟩
    intro M1 M2 M3 M4 M5
    have f : ∀ c, c ≠ 3 → c ≠ 4 → c ≠ 5 → c ≠ 6 → c ≠ 7 → M5 c = M c := fun c a0 a8 a9 a10 a11 => by
      show mW1 (mUp (mUp (mUp (mUp M 4 _) 5 _) 6 _) 7 _) 3 4 _ c = _
      rw [mW1_c a0, mUp_ne a11, mUp_ne a10, mUp_ne a9, mUp_ne a8]
    have e4 : M5 4 = va_cpy (M 9) (M 4) 0 0 90 := by
      show mW1 (mUp (mUp (mUp (mUp M 4 _) 5 _) 6 _) 7 _) 3 4 _ 4 = _
      rw [mW1_c (by decide), mUp_ne (by decide), mUp_ne (by decide), mUp_ne (by decide), mUp_at]
    have e5 : M5 5 = va_cpy (M 10) (M 5) 0 0 90 := by
      show mW1 (mUp (mUp (mUp M1 5 _) 6 _) 7 _) 3 4 _ 5 = _
      rw [mW1_c (by decide), mUp_ne (by decide), mUp_ne (by decide), mUp_at]
    have e6 : M5 6 = va_cpy (M 11) (M 6) 0 0 90 := by
      show mW1 (mUp (mUp M2 6 _) 7 _) 3 4 _ 6 = _
      rw [mW1_c (by decide), mUp_ne (by decide), mUp_at]
    have e7 : M5 7 = va_cpy (M 12) (M 7) 0 0 90 := by
      show mW1 (mUp M3 7 _) 3 4 _ 7 = _
      rw [mW1_c (by decide), mUp_at]
    have e34 : M5 3 4 = M 8 4 := mW1_s
    have hL3 : RpL 3 M5 l := RpL_take (c := 8) hL hlI.1 e34 (fun k h1 h2 => by
      rcases (by omega : k = 1 ∨ k = 2 ∨ k = 3 ∨ k = 4) with rfl | rfl | rfl | rfl
      · exact e4
      · exact e5
      · exact e6
      · exact e7)
    have ec : M 8 4 = nI l.length := hL.1
    try rw [ec]
    refine ⟨(13, l.length, l), ⟨Or.inl rfl, rfl, hL3, hlI, Nat.le_refl _⟩, fun M7 k => ?_⟩
    obtain ⟨k1, k2⟩ := k
    dsimp only at k1 k2
    rw [take_all] at k1
    have hL7 : RpL 3 M7 l := RpL_fr hL3 (fun k hk => k2 _ (by omega))
    refine hP _ M7 hL7.1 (RpC_log hR hL7 ⟨?_, fun l' hl' => ?_⟩ k1 (fun c hc => by rw [k2 _ (by omega), f _ (by omega) (by omega) (by omega) (by omega) (by omega)])) (fun c hc => by rw [k2 _ (by omega), f _ (by omega) (by omega) (by omega) (by omega) (by omega)])
    · rw [k2 0 (by omega), f 0 (by decide) (by decide) (by decide) (by decide) (by decide)]
      exact e07'
    · cases hl'
      exact RpL_fr hL (fun k hk => by rw [k2 _ (by omega), f _ (by omega) (by omega) (by omega) (by omega) (by omega)]))

theorem ok_X7_back : mOK yX7_back cX7_back 1 (some .int) 7 t_X7_back := mOK.of f_X7_back (by decide) (fun _ => rfl) (fun g => mCodeOK kk_X7_back) (fun g => mFldL fk_RX7 rfl) (fun g idx v h => by cases h) (fun g idx v h => by cases h) (mCalL (l := l_X7_back) (List.forall_mem_cons.mpr ⟨mSite.V (idx := 275) ok_X0_become (by decide) (by decide) rv_X0_become wc_X0_become wk_RX7_275 wi_X0_become wl_X0_become wn_RX0 wd_X0_become, List.forall_mem_cons.mpr ⟨mSite.V (idx := 99) ok_X7_goThrough (by decide) (by decide) rv_X7_goThrough wc_X7_goThrough wk_RX7_99 wi_X7_goThrough wl_X7_goThrough wn_RX7 wd_X7_goThrough, fun _ h => absurd h List.not_mem_nil⟩⟩) (fun _ => rfl)) run_X7_back

def F_replay (z : aZ) (as : List Int32) : Int32 × aZ := (match as with
  | [n, w] => match ix n (z.2.1.length + 1) with
    | none => -2
    | some n => match ix w 32 with
      | none => -2
      | some k => if k < 14 then tAns (zT (z.2.1.take n)) (nI k) else if k < 20 then -2 else (zT (z.2.1.take n)).2.2.2.2 (6 * ((k - 20) % 2) + (k - 20) / 2)
  | _ => 0, z)
abbrev t_X7_replay : mG → mT := pub 2 F_replay
theorem mo_X7_replay : mMn t_X7_replay := pub_mono
theorem rv_X7_replay : mHasR yX7_replay 2 t_X7_replay := pub_recv rfl
def k_X7_replay : List (Nat × mI) := [(0, .iload_n 2, 1, 2, 0, []),
  (1, .bipush 20, 2, 0, nI 20, []),
  (3, .if_icmp .lt 13, 3, 16, 0, []),
  (6, .iload_n 2, 1, 2, 0, []),
  (7, .bipush 31, 2, 0, nI 31, []),
  (9, .if_icmp .gt 7, 3, 16, 0, []),
  (12, .iconst 1, 1, 0, nI 1, []),
  (13, .goto 4, 3, 17, 0, []),
  (16, .iconst 0, 1, 0, nI 0, []),
  (17, .istore_n 3, 1, 3, 0, []),
  (18, .iload_n 1, 1, 1, 0, []),
  (19, .ifCond .lt 14, 3, 33, 0, []),
  (22, .iload_n 1, 1, 1, 0, []),
  (23, .aload_n 0, 1, 0, 0, []),
  (24, .getfield 19, 3, 0, 0, []),
  (27, .getfield 96, 3, 0, 0, []),
  (30, .if_icmp .le 6, 3, 36, 0, []),
  (33, .bipush (-2), 2, 0, -2, []),
  (35, .ireturn, 1, 0, 0, []),
  (36, .iload_n 3, 1, 3, 0, []),
  (37, .ifCond .ne 16, 3, 53, 0, []),
  (40, .iload_n 2, 1, 2, 0, []),
  (41, .ifCond .lt 9, 3, 50, 0, []),
  (44, .iload_n 2, 1, 2, 0, []),
  (45, .bipush 14, 2, 0, nI 14, []),
  (47, .if_icmp .lt 6, 3, 53, 0, []),
  (50, .bipush (-2), 2, 0, -2, []),
  (52, .ireturn, 1, 0, 0, []),
  (53, .aload_n 0, 1, 0, 0, []),
  (54, .aload_n 0, 1, 0, 0, []),
  (55, .getfield 33, 3, 0, 0, []),
  (58, .iload_n 1, 1, 1, 0, []),
  (59, .invokevirtual 99, 3, 0, 0, []),
  (62, .iload_n 3, 1, 3, 0, []),
  (63, .ifCond .eq 26, 3, 89, 0, []),
  (66, .aload_n 0, 1, 0, 0, []),
  (67, .getfield 33, 3, 0, 0, []),
  (70, .getfield 193, 3, 0, 0, []),
  (73, .iload_n 2, 1, 2, 0, []),
  (74, .bipush 20, 2, 0, nI 20, []),
  (76, .isub, 1, 0, 0, []),
  (77, .iconst 2, 1, 0, nI 2, []),
  (78, .irem, 1, 0, 0, []),
  (79, .iload_n 2, 1, 2, 0, []),
  (80, .bipush 20, 2, 0, nI 20, []),
  (82, .isub, 1, 0, 0, []),
  (83, .iconst 2, 1, 0, nI 2, []),
  (84, .idiv, 1, 0, 0, []),
  (85, .invokevirtual 215, 3, 0, 0, []),
  (88, .ireturn, 1, 0, 0, []),
  (89, .aload_n 0, 1, 0, 0, []),
  (90, .getfield 33, 3, 0, 0, []),
  (93, .iload_n 2, 1, 2, 0, []),
  (94, .invokevirtual 130, 3, 0, 0, []),
  (97, .ireturn, 1, 0, 0, [])]
theorem kk_X7_replay : (k_X7_replay.all fun e => mChk cX7_replay e.1 e.2) = true := by decide +kernel
def l_X7_replay : List (Nat × Nat × (mG → mT)) := [(3 * 99, 2 + 1, t_X7_goThrough), (3 * 215, 2 + 1, t_X3_totalOf), (3 * 130, 1 + 1, t_X5_standing)]
def f_X7_replay (g : mG) : mF := (mLk k_X7_replay, mLk fl_RX7, mLk (l_X7_replay.map fun e => (e.1, e.2.1, e.2.2 g)), mLk ([] : List (Nat × mV)), mLk ([] : List (Nat × mV)), some .int)
theorem m_X7_replay (g : mG) : mMono (f_X7_replay g) := mMonoL (g := g) (l := l_X7_replay) (List.forall_mem_cons.mpr ⟨mo_X7_goThrough, List.forall_mem_cons.mpr ⟨mo_X3_totalOf, List.forall_mem_cons.mpr ⟨mo_X5_standing, fun _ h => absurd h List.not_mem_nil⟩⟩⟩) rfl

theorem v_rp_0 (g : mG) (M : mM) (P : mP) (x y : Int32)
    (h : (y < (nI 20) → mRun (mSx g) (f_X7_replay g) P (17, [some (.inr (some 0)), some (.inl x), some (.inl y), none], [.inl (nI 0)], M)) ∧ (¬ (y < (nI 20)) → ((nI 31) < y → mRun (mSx g) (f_X7_replay g) P (17, [some (.inr (some 0)), some (.inl x), some (.inl y), none], [.inl (nI 0)], M)) ∧ (¬ ((nI 31) < y) → mRun (mSx g) (f_X7_replay g) P (17, [some (.inr (some 0)), some (.inl x), some (.inl y), none], [.inl (nI 1)], M)))) :
    mRun (mSx g) (f_X7_replay g) P (0, [some (.inr (some 0)), some (.inl x), some (.inl y), none], [], M) := mRun.vc (m_X7_replay g) [17] 9 h

theorem v_rp_17 (g : mG) (M : mM) (P : mP) (x y b : Int32)
    (h : (x < 0 → P (some (.inl (-2))) M) ∧ (¬ (x < 0) → (x ≤ (M 3 4) → (¬ b = 0 → mRun (mSx g) (f_X7_replay g) P (53, [some (.inr (some 0)), some (.inl x), some (.inl y), some (.inl b)], [], M)) ∧ (¬ (¬ b = 0) → (y < 0 → P (some (.inl (-2))) M) ∧ (¬ (y < 0) → (y < (nI 14) → mRun (mSx g) (f_X7_replay g) P (53, [some (.inr (some 0)), some (.inl x), some (.inl y), some (.inl b)], [], M)) ∧ (¬ (y < (nI 14)) → P (some (.inl (-2))) M)))) ∧ (¬ (x ≤ (M 3 4)) → P (some (.inl (-2))) M))) :
    mRun (mSx g) (f_X7_replay g) P (17, [some (.inr (some 0)), some (.inl x), some (.inl y), none], [.inl b], M) := mRun.vc (m_X7_replay g) [53] 17 h

theorem v_rp_53 (g : mG) (M : mM) (P : mP) (x y b : Int32)
    (h : ∃ x1 : Nat × Nat × List aE, pre_X7_goThrough x1 [.inr (some 0), .inr (some 26), .inl x] M ∧ ∀ M2 : mM, post_X7_goThrough x1 [.inr (some 0), .inr (some 26), .inl x] M M2 → ((b = 0 → ∃ x4 : Nat × aT × Int32, pre_X5_standing x4 [.inr (some 26), .inl y] M2 ∧ ∀ (r6 : Int32) (M5 : mM), post_X5_standing x4 [.inr (some 26), .inl y] M2 r6 M5 → (P (some (.inl r6)) M5)) ∧ (¬ (b = 0) → ¬ (nI 2) = 0 ∧ (¬ (nI 2) = 0 ∧ ((P (some (.inl (aAt (M2 38) 12 ((((y - (nI 20)) - (y - (nI 20)) / (nI 2) * (nI 2)) * (nI 6)) + ((y - (nI 20)) / (nI 2)))))) M2)))))) :
    mRun (mSx g) (f_X7_replay g) P (53, [some (.inr (some 0)), some (.inl x), some (.inl y), some (.inl b)], [], M) := mRun.vc (m_X7_replay g) [] 22 h

set_option maxHeartbeats 1000000 in
theorem run_X7_replay : mRunOf 4 t_X7_replay f_X7_replay := runC2 (by decide) (fun g M P z x y hR hI hP => by
  have hR' := hR
  obtain ⟨h1, h2, h3, h4, h5, h6⟩ := hR'
  have hlen := hI.2.1.1
  have e34 : M 3 4 = nI z.2.1.length := h2.1
  have hQ : ∀ v M', v = (F_replay z [x, y]).1 → RpC M' z → FrC M M' → P (some (.inl v)) M' := fun v M' e => hP v M' e
  have hb17 : ∀ b : Int32, (b = mb (nI 20 ≤ y ∧ y ≤ nI 31) → mRun (mSx g) (f_X7_replay g) P (17, [some (.inr (some 0)), some (.inl x), some (.inl y), none], [.inl b], M)) → mRun (mSx g) (f_X7_replay g) P (0, [some (.inr (some 0)), some (.inl x), some (.inl y), none], [], M) → True := fun _ _ _ => trivial
  have main : mRun (mSx g) (f_X7_replay g) P (17, [some (.inr (some 0)), some (.inl x), some (.inl y), none], [.inl (mb (nI 20 ≤ y ∧ y ≤ nI 31))], M) := by
    refine v_rp_17 g M P _ _ _ ?_
    rw [e34]
    rcases ix_cs x (n := z.2.1.length + 1) (by omega) with ⟨hx, e1⟩ | ⟨n, hn, rfl, e1⟩
    · rw [show (F_replay z [x, y]).1 = -2 by simp only [F_replay, e1]] at hQ
      refine ⟨fun _ => hQ _ _ rfl hR FrC.refl, fun w1 => ⟨fun w2 => ?_, fun _ => hQ _ _ rfl hR FrC.refl⟩⟩
      have w := hx.resolve_left w1
      simp (disch := omega) only [fa_lt, fa_le, nI_toInt, Int32.toInt_zero] at w w1 w2
      omega
    refine ⟨fun h => absurd h (nI_pos (by omega)), fun _ => ⟨fun _ => ?_, fun h => absurd (nI_le (by omega) (by omega)) h⟩⟩
    have go : ∀ (b : Int32) (k : Nat), y = nI k → k < 32 → b = mb (20 ≤ k) → (20 ≤ k ∨ k < 14) → mRun (mSx g) (f_X7_replay g) P (53, [some (.inr (some 0)), some (.inl (nI n)), some (.inl y), some (.inl b)], [], M) := fun b k hy hk hb hk2 => by
      subst hy
      rw [show (F_replay z [nI n, nI k]).1 = if k < 14 then tAns (zT (z.2.1.take n)) (nI k) else if k < 20 then -2 else (zT (z.2.1.take n)).2.2.2.2 (6 * ((k - 20) % 2) + (k - 20) / 2) by simp only [F_replay, e1, ix_at hk (by decide)]] at hQ
      refine v_rp_53 g M P _ _ _ ⟨(26, n, z.2.1), ⟨Or.inr rfl, rfl, h2, hI.2.1, by show n ≤ z.2.1.length; omega⟩, fun M2 k2 => ?_⟩
      obtain ⟨k3, k4⟩ := k2
      dsimp only at k3 k4
      have hR2 : RpC M2 z := RpC_fr hR (fun c hc _ => k4 c (by omega))
      have hF2 : FrC M M2 := fun c hc => k4 c (by omega)
      have hT2 := zT_inv (lInv_take n hI.2.1)
      rw [hb]
      by_cases h20 : 20 ≤ k
      · rw [mb_t h20]
        rw [if_neg (by omega), if_neg (by omega)] at hQ
        have er : nI (k - 20) - nI (k - 20) / nI 2 * nI 2 = nI ((k - 20) % 2) := pk_rem (by omega) (by decide) (by decide)
        refine ⟨fun h => absurd h (by decide), fun _ => ⟨n2, ⟨n2, hQ _ _ ?_ hR2 hF2⟩⟩⟩
        rw [pk_sub h20, er, pk_div (by omega) (by decide) (by decide), pk_mul, nI_add, aAt_in (by omega) (by decide), Nat.mul_comm]
        exact k3.2.2.2.2.2 _ (by omega)
      · rw [mb_f h20]
        rw [if_pos (by omega)] at hQ
        refine ⟨fun _ => ⟨(26, zT (z.2.1.take n), nI k), ⟨Or.inr rfl, rfl, k3, hT2.len⟩, fun r M4 hr => ?_⟩, fun h => absurd rfl h⟩
        obtain ⟨hr1, rfl⟩ := hr
        exact hQ _ _ hr1 hR2 hF2
    by_cases hy : nI 20 ≤ y ∧ y ≤ nI 31
    · rw [mb_t hy]
      obtain ⟨k, hk, rfl⟩ : ∃ k, k ≤ 31 ∧ y = nI k := nI_of2 (M := nI 31) (n := 31) (by decide) (Int32.not_lt.mpr (Int32.le_trans (by decide) hy.1)) hy.2
      have hk2 := (nI_leI (by decide) (by omega)).mp hy.1
      exact ⟨fun _ => go _ k rfl (by omega) (mb_t hk2).symm (Or.inl hk2), fun h => absurd (by decide) h⟩
    · rw [mb_f hy]
      rcases ix_cs y (n := 14) (by decide) with ⟨hy2, e2⟩ | ⟨k, hk, rfl, e2⟩
      · have hF : (F_replay z [nI n, y]).1 = -2 := by
          rcases ix_cs y (n := 32) (by decide) with ⟨-, e3⟩ | ⟨k, hk, rfl, e3⟩
          · simp only [F_replay, e1, e3]
          · have k1 : ¬ k < 14 := fun w => by rw [ix_at w (by decide)] at e2; cases e2
            have k2 : k < 20 := Nat.lt_of_not_le (fun w => hy ⟨nI_le w (by omega), nI_le (by omega) (by decide)⟩)
            simp only [F_replay, e1, e3, if_neg k1, if_pos k2]
        rw [hF] at hQ
        refine ⟨fun h => absurd rfl h, fun _ => ⟨fun _ => hQ _ _ rfl hR FrC.refl, fun w1 => ⟨fun w2 => ?_, fun _ => hQ _ _ rfl hR FrC.refl⟩⟩⟩
        exact absurd w2 (Int32.not_lt.mpr (hy2.resolve_left w1))
      · exact ⟨fun h => absurd rfl h, fun _ => ⟨fun h => absurd h (nI_pos (by omega)), fun _ => ⟨fun _ => go _ k rfl (by omega) (mb_f (by omega)).symm (Or.inr hk), fun h => absurd (nI_lt hk (by decide)) h⟩⟩⟩
  refine v_rp_0 g M P x y ?_
  refine ⟨fun h => ?_, fun h => ⟨fun h2 => ?_, fun h2 => ?_⟩⟩
  · rw [mb_f (fun w => absurd h (Int32.not_lt.mpr w.1))] at main
    exact main
  · rw [mb_f (fun w => absurd h2 (Int32.not_lt.mpr w.2))] at main
    exact main
  · rw [mb_t ⟨Int32.not_lt.mp h, Int32.not_lt.mp h2⟩] at main
    exact main)

theorem ok_X7_replay : mOK yX7_replay cX7_replay 4 (some .int) 7 t_X7_replay := mOK.of f_X7_replay (by decide) (fun _ => rfl) (fun g => mCodeOK kk_X7_replay) (fun g => mFldL fk_RX7 rfl) (fun g idx v h => by cases h) (fun g idx v h => by cases h) (mCalL (l := l_X7_replay) (List.forall_mem_cons.mpr ⟨mSite.V (idx := 99) ok_X7_goThrough (by decide) (by decide) rv_X7_goThrough wc_X7_goThrough wk_RX7_99 wi_X7_goThrough wl_X7_goThrough wn_RX7 wd_X7_goThrough, List.forall_mem_cons.mpr ⟨mSite.V (idx := 215) ok_X3_totalOf (by decide) (by decide) rv_X3_totalOf wc_X3_totalOf wk_RX7_215 wi_X3_totalOf wl_X3_totalOf wn_RX3 wd_X3_totalOf, List.forall_mem_cons.mpr ⟨mSite.V (idx := 130) ok_X5_standing (by decide) (by decide) rv_X5_standing wc_X5_standing wk_RX7_130 wi_X5_standing wl_X5_standing wn_RX5 wd_X5_standing, fun _ h => absurd h List.not_mem_nil⟩⟩⟩) (fun _ => rfl)) run_X7_replay

