/-! ===== CLASS Play: become, clear, dealOut ===== -/
def k_X2_clear : List (Nat × mI) := [(0, .aload_n 0, 1, 0, 0, []),
  (1, .getfield 15, 3, 0, 0, []),
  (4, .iconst 0, 1, 0, nI 0, []),
  (5, .invokestatic 33, 3, 0, 0, []),
  (8, .aload_n 0, 1, 0, 0, []),
  (9, .getfield 18, 3, 0, 0, []),
  (12, .iconst 0, 1, 0, nI 0, []),
  (13, .invokestatic 33, 3, 0, 0, []),
  (16, .aload_n 0, 1, 0, 0, []),
  (17, .getfield 30, 3, 0, 0, []),
  (20, .iconst 0, 1, 0, nI 0, []),
  (21, .invokestatic 33, 3, 0, 0, []),
  (24, .aload_n 0, 1, 0, 0, []),
  (25, .iconst 0, 1, 0, nI 0, []),
  (26, .putfield 37, 3, 0, 0, []),
  (29, .aload_n 0, 1, 0, 0, []),
  (30, .iconst 0, 1, 0, nI 0, []),
  (31, .iconst 4, 1, 0, nI 4, []),
  (32, .iconst 0, 1, 0, nI 0, []),
  (33, .iconst 0, 1, 0, nI 0, []),
  (34, .invokevirtual 41, 3, 0, 0, []),
  (37, .return_, 1, 0, 0, [])]
theorem kk_X2_clear : (k_X2_clear.all fun e => mChk cX2_clear e.1 e.2) = true := by decide +kernel
def l_X2_clear : List (Nat × Nat × (mG → mT)) := [(3 * 33 + 1, 2, t_X7_fill), (3 * 41, 4 + 1, t_X2_begin)]
def f_X2_clear (g : mG) : mF := (mLk k_X2_clear, mLk fl_RX2, mLk (l_X2_clear.map fun e => (e.1, e.2.1, e.2.2 g)), mLk ([] : List (Nat × mV)), mLk ([] : List (Nat × mV)), none)
theorem m_X2_clear (g : mG) : mMono (f_X2_clear g) := mMonoL (g := g) (l := l_X2_clear) (List.forall_mem_cons.mpr ⟨mo_X7_fill, List.forall_mem_cons.mpr ⟨mo_X2_begin, fun _ h => absurd h List.not_mem_nil⟩⟩) rfl
def t_X2_clear : mG → mT := mIV pl_X2 f_X2_clear 1 23
theorem mo_X2_clear : mMn t_X2_clear := mIV_mono m_X2_clear
theorem rv_X2_clear : mHasR yX2_clear 0 t_X2_clear := mIV_recv is_X2
theorem ok_X2_clear : mOK yX2_clear cX2_clear 1 (none) 2 t_X2_clear := mOK.of f_X2_clear (by decide) (fun _ => rfl) (fun g => mCodeOK kk_X2_clear) (fun g => mFldL fk_RX2 rfl) (fun g idx v h => by cases h) (fun g idx v h => by cases h) (mCalL (l := l_X2_clear) (List.forall_mem_cons.mpr ⟨mSite.SN (idx := 33) ok_X7_fill (by decide) (by decide) wc_X7_fill wm_RX2_33 wt_X7_fill wn_RX7 wd_X7_fill, List.forall_mem_cons.mpr ⟨mSite.V (idx := 41) ok_X2_begin (by decide) (by decide) rv_X2_begin wc_X2_begin wk_RX2_41 wi_X2_begin wl_X2_begin wn_RX2 wd_X2_begin, fun _ h => absurd h List.not_mem_nil⟩⟩) (fun _ => rfl)) (mIV_run m_X2_clear)

def k_X1_begin : List (Nat × mI) := [(0, .aload_n 0, 1, 0, 0, []),
  (1, .getfield 9, 3, 0, 0, []),
  (4, .iconst (-1), 1, 0, -1, []),
  (5, .invokestatic 15, 3, 0, 0, []),
  (8, .aload_n 0, 1, 0, 0, []),
  (9, .iload_n 1, 1, 1, 0, []),
  (10, .putfield 19, 3, 0, 0, []),
  (13, .aload_n 0, 1, 0, 0, []),
  (14, .iconst (-1), 1, 0, -1, []),
  (15, .putfield 23, 3, 0, 0, []),
  (18, .aload_n 0, 1, 0, 0, []),
  (19, .iconst (-1), 1, 0, -1, []),
  (20, .putfield 26, 3, 0, 0, []),
  (23, .aload_n 0, 1, 0, 0, []),
  (24, .iconst (-1), 1, 0, -1, []),
  (25, .putfield 29, 3, 0, 0, []),
  (28, .aload_n 0, 1, 0, 0, []),
  (29, .iconst 0, 1, 0, nI 0, []),
  (30, .putfield 32, 3, 0, 0, []),
  (33, .aload_n 0, 1, 0, 0, []),
  (34, .iconst 0, 1, 0, nI 0, []),
  (35, .putfield 35, 3, 0, 0, []),
  (38, .aload_n 0, 1, 0, 0, []),
  (39, .iconst (-1), 1, 0, -1, []),
  (40, .putfield 38, 3, 0, 0, []),
  (43, .return_, 1, 0, 0, [])]
theorem kk_X1_begin : (k_X1_begin.all fun e => mChk cX1_begin e.1 e.2) = true := by decide +kernel
def l_X1_begin : List (Nat × Nat × (mG → mT)) := [(3 * 15 + 1, 2, t_X7_fill)]
def f_X1_begin (g : mG) : mF := (mLk k_X1_begin, mLk fl_RX1, mLk (l_X1_begin.map fun e => (e.1, e.2.1, e.2.2 g)), mLk ([] : List (Nat × mV)), mLk ([] : List (Nat × mV)), none)
theorem m_X1_begin (g : mG) : mMono (f_X1_begin g) := mMonoL (g := g) (l := l_X1_begin) (List.forall_mem_cons.mpr ⟨mo_X7_fill, fun _ h => absurd h List.not_mem_nil⟩) rfl
def t_X1_begin : mG → mT := mIV pl_X1 f_X1_begin 2 27
theorem mo_X1_begin : mMn t_X1_begin := mIV_mono m_X1_begin
theorem rv_X1_begin : mHasR yX1_begin 1 t_X1_begin := mIV_recv is_X1
theorem ok_X1_begin : mOK yX1_begin cX1_begin 2 (none) 2 t_X1_begin := mOK.of f_X1_begin (by decide) (fun _ => rfl) (fun g => mCodeOK kk_X1_begin) (fun g => mFldL fk_RX1 rfl) (fun g idx v h => by cases h) (fun g idx v h => by cases h) (mCalL (l := l_X1_begin) (List.forall_mem_cons.mpr ⟨mSite.SN (idx := 15) ok_X7_fill (by decide) (by decide) wc_X7_fill wm_RX1_15 wt_X7_fill wn_RX7 wd_X7_fill, fun _ h => absurd h List.not_mem_nil⟩) (fun _ => rfl)) (mIV_run m_X1_begin)

def k_X3_clear : List (Nat × mI) := [(0, .aload_n 0, 1, 0, 0, []),
  (1, .getfield 9, 3, 0, 0, []),
  (4, .iconst 0, 1, 0, nI 0, []),
  (5, .invokestatic 15, 3, 0, 0, []),
  (8, .aload_n 0, 1, 0, 0, []),
  (9, .iconst 0, 1, 0, nI 0, []),
  (10, .putfield 19, 3, 0, 0, []),
  (13, .return_, 1, 0, 0, [])]
theorem kk_X3_clear : (k_X3_clear.all fun e => mChk cX3_clear e.1 e.2) = true := by decide +kernel
def l_X3_clear : List (Nat × Nat × (mG → mT)) := [(3 * 15 + 1, 2, t_X7_fill)]
def f_X3_clear (g : mG) : mF := (mLk k_X3_clear, mLk fl_RX3, mLk (l_X3_clear.map fun e => (e.1, e.2.1, e.2.2 g)), mLk ([] : List (Nat × mV)), mLk ([] : List (Nat × mV)), none)
theorem m_X3_clear (g : mG) : mMono (f_X3_clear g) := mMonoL (g := g) (l := l_X3_clear) (List.forall_mem_cons.mpr ⟨mo_X7_fill, fun _ h => absurd h List.not_mem_nil⟩) rfl
def t_X3_clear : mG → mT := mIV pl_X3 f_X3_clear 1 9
theorem mo_X3_clear : mMn t_X3_clear := mIV_mono m_X3_clear
theorem rv_X3_clear : mHasR yX3_clear 0 t_X3_clear := mIV_recv is_X3
theorem ok_X3_clear : mOK yX3_clear cX3_clear 1 (none) 2 t_X3_clear := mOK.of f_X3_clear (by decide) (fun _ => rfl) (fun g => mCodeOK kk_X3_clear) (fun g => mFldL fk_RX3 rfl) (fun g idx v h => by cases h) (fun g idx v h => by cases h) (mCalL (l := l_X3_clear) (List.forall_mem_cons.mpr ⟨mSite.SN (idx := 15) ok_X7_fill (by decide) (by decide) wc_X7_fill wm_RX3_15 wt_X7_fill wn_RX7 wd_X7_fill, fun _ h => absurd h List.not_mem_nil⟩) (fun _ => rfl)) (mIV_run m_X3_clear)

def pre_X2_become (q : aP) (as : List mV) (M : mM) : Prop := as = [.inr (some 29), .inr (some 16)] ∧ RpS 16 M q ∧ q.2.2.2.2.length ≤ 32
def post_X2_become (q : aP) (_ : List mV) (M : mM) (M' : mM) : Prop := RpS 29 M' q ∧ FrP 29 M M'
abbrev t_X2_become : mG → mT := mRv pre_X2_become post_X2_become
theorem mo_X2_become : mMn t_X2_become := mRv_mono
theorem rv_X2_become : mHasR yX2_become 1 t_X2_become := by
  intro g as M P hT hl
  obtain ⟨q, ⟨h2, -, -⟩, -⟩ := hT
  exact ⟨_, _, h2, is_X2 g _ rfl⟩
theorem cpy_0 {f g : Nat → Int32} {n j : Nat} (h : j < n) : va_cpy f g 0 0 n j = f j := by
  rw [pk_cpy_in (Nat.zero_le _) (by omega)]
  congr 1
  omega
def k_X2_become : List (Nat × mI) := [(0, .aload_n 1, 1, 1, 0, []),
  (1, .getfield 15, 3, 0, 0, []),
  (4, .aload_n 0, 1, 0, 0, []),
  (5, .getfield 15, 3, 0, 0, []),
  (8, .invokestatic 63, 3, 0, 0, []),
  (11, .aload_n 1, 1, 1, 0, []),
  (12, .getfield 18, 3, 0, 0, []),
  (15, .aload_n 0, 1, 0, 0, []),
  (16, .getfield 18, 3, 0, 0, []),
  (19, .invokestatic 63, 3, 0, 0, []),
  (22, .aload_n 1, 1, 1, 0, []),
  (23, .getfield 21, 3, 0, 0, []),
  (26, .aload_n 0, 1, 0, 0, []),
  (27, .getfield 21, 3, 0, 0, []),
  (30, .invokestatic 63, 3, 0, 0, []),
  (33, .aload_n 1, 1, 1, 0, []),
  (34, .getfield 24, 3, 0, 0, []),
  (37, .aload_n 0, 1, 0, 0, []),
  (38, .getfield 24, 3, 0, 0, []),
  (41, .invokestatic 63, 3, 0, 0, []),
  (44, .aload_n 1, 1, 1, 0, []),
  (45, .getfield 27, 3, 0, 0, []),
  (48, .aload_n 0, 1, 0, 0, []),
  (49, .getfield 27, 3, 0, 0, []),
  (52, .invokestatic 63, 3, 0, 0, []),
  (55, .aload_n 1, 1, 1, 0, []),
  (56, .getfield 30, 3, 0, 0, []),
  (59, .aload_n 0, 1, 0, 0, []),
  (60, .getfield 30, 3, 0, 0, []),
  (63, .invokestatic 63, 3, 0, 0, []),
  (66, .aload_n 0, 1, 0, 0, []),
  (67, .aload_n 1, 1, 1, 0, []),
  (68, .getfield 37, 3, 0, 0, []),
  (71, .putfield 37, 3, 0, 0, []),
  (74, .aload_n 0, 1, 0, 0, []),
  (75, .aload_n 1, 1, 1, 0, []),
  (76, .getfield 67, 3, 0, 0, []),
  (79, .aload_n 1, 1, 1, 0, []),
  (80, .getfield 70, 3, 0, 0, []),
  (83, .aload_n 1, 1, 1, 0, []),
  (84, .getfield 73, 3, 0, 0, []),
  (87, .aload_n 1, 1, 1, 0, []),
  (88, .getfield 76, 3, 0, 0, []),
  (91, .invokevirtual 41, 3, 0, 0, []),
  (94, .return_, 1, 0, 0, [])]
theorem kk_X2_become : (k_X2_become.all fun e => mChk cX2_become e.1 e.2) = true := by decide +kernel
def l_X2_become : List (Nat × Nat × (mG → mT)) := [(3 * 63 + 1, 2, t_X7_take), (3 * 41, 4 + 1, t_X2_begin)]
def f_X2_become (g : mG) : mF := (mLk k_X2_become, mLk fl_RX2, mLk (l_X2_become.map fun e => (e.1, e.2.1, e.2.2 g)), mLk ([] : List (Nat × mV)), mLk ([] : List (Nat × mV)), none)
theorem m_X2_become (g : mG) : mMono (f_X2_become g) := mMonoL (g := g) (l := l_X2_become) (List.forall_mem_cons.mpr ⟨mo_X7_take, List.forall_mem_cons.mpr ⟨mo_X2_begin, fun _ h => absurd h List.not_mem_nil⟩⟩) rfl

set_option maxRecDepth 100000 in
theorem v_become (g : mG) (M : mM) (P : mP) 
    (h : let M1 : mM := mUp M 31 (va_cpy (M 18) (M 31) 0 0 4); let M2 : mM := mUp M1 32 (va_cpy (M 19) (M 32) 0 0 4); let M3 : mM := mUp M2 33 (va_cpy (M 20) (M 33) 0 0 32); let M4 : mM := mUp M3 34 (va_cpy (M 21) (M 34) 0 0 8); let M5 : mM := mUp M4 35 (va_cpy (M 22) (M 35) 0 0 8); let M6 : mM := mUp M5 36 (va_cpy (M 23) (M 36) 0 0 2); let M7 : mM := mW1 M6 29 7 (M 16 7); let M8 : mM := mW1 M7 29 8 (M 16 8); let M9 : mM := mW1 M8 29 9 (M 16 9); let M10 : mM := mW1 M9 29 10 (M 16 10); let M11 : mM := mW1 M10 29 11 (M 16 11); P none M11) :
    mRun (mSx g) (f_X2_become g) P (0, [some (.inr (some 29)), some (.inr (some 16))], [], M) := mRun.vc (m_X2_become g) [] 45 h

theorem run_X2_become : mRunOf 2 t_X2_become f_X2_become := fun g as M P hT => by
  obtain ⟨⟨x, dl, a0, a1, cs⟩, ⟨rfl, hR, hn32⟩, hP⟩ := hT
  refine ⟨Nat.le_of_ble_eq_true rfl, ?_⟩
  obtain ⟨⟨r1, r2, r3, r4, r5⟩, r6, r7, r8, r9, r10, r11, r12⟩ := hR
  have hlen : cs.length ≤ 32 := hn32
  by_cases hn : cs.length ≤ 32
  · refine v_become g M P ?_
    intro M1 M2 M3 M4 M5 M6 M7 M8 M9 M10 M11
    have q6 : ∀ d, d ≠ 29 → M11 d = M6 d := fun d h => by
      show mW1 (mW1 (mW1 (mW1 (mW1 M6 29 7 _) 29 8 _) 29 9 _) 29 10 _) 29 11 _ d = _
      rw [mW1_c h, mW1_c h, mW1_c h, mW1_c h, mW1_c h]
    have e31 : M11 31 = va_cpy (M 18) (M 31) 0 0 4 := by rw [q6 31 (by decide)]; show mUp (mUp (mUp (mUp (mUp M1 32 _) 33 _) 34 _) 35 _) 36 _ 31 = _; rw [mUp_ne (by decide), mUp_ne (by decide), mUp_ne (by decide), mUp_ne (by decide), mUp_ne (by decide)]; exact mUp_at
    have e32 : M11 32 = va_cpy (M 19) (M 32) 0 0 4 := by rw [q6 32 (by decide)]; show mUp (mUp (mUp (mUp M2 33 _) 34 _) 35 _) 36 _ 32 = _; rw [mUp_ne (by decide), mUp_ne (by decide), mUp_ne (by decide), mUp_ne (by decide)]; exact mUp_at
    have e33 : M11 33 = va_cpy (M 20) (M 33) 0 0 32 := by rw [q6 33 (by decide)]; show mUp (mUp (mUp M3 34 _) 35 _) 36 _ 33 = _; rw [mUp_ne (by decide), mUp_ne (by decide), mUp_ne (by decide)]; exact mUp_at
    have e34 : M11 34 = va_cpy (M 21) (M 34) 0 0 8 := by rw [q6 34 (by decide)]; show mUp (mUp M4 35 _) 36 _ 34 = _; rw [mUp_ne (by decide), mUp_ne (by decide)]; exact mUp_at
    have e35 : M11 35 = va_cpy (M 22) (M 35) 0 0 8 := by rw [q6 35 (by decide)]; show mUp M5 36 _ 35 = _; rw [mUp_ne (by decide)]; exact mUp_at
    have e36 : M11 36 = va_cpy (M 23) (M 36) 0 0 2 := by rw [q6 36 (by decide)]; exact mUp_at
    have g7 : M11 29 7 = M 16 7 := by show mW1 (mW1 (mW1 (mW1 (mW1 M6 29 7 _) 29 8 _) 29 9 _) 29 10 _) 29 11 _ 29 7 = _; rw [mW1_k (by decide), mW1_k (by decide), mW1_k (by decide), mW1_k (by decide), mW1_s]
    have g8 : M11 29 8 = M 16 8 := by show mW1 (mW1 (mW1 (mW1 M7 29 8 _) 29 9 _) 29 10 _) 29 11 _ 29 8 = _; rw [mW1_k (by decide), mW1_k (by decide), mW1_k (by decide), mW1_s]
    have g9 : M11 29 9 = M 16 9 := by show mW1 (mW1 (mW1 M8 29 9 _) 29 10 _) 29 11 _ 29 9 = _; rw [mW1_k (by decide), mW1_k (by decide), mW1_s]
    have g10 : M11 29 10 = M 16 10 := by show mW1 (mW1 M9 29 10 _) 29 11 _ 29 10 = _; rw [mW1_k (by decide), mW1_s]
    have g11 : M11 29 11 = M 16 11 := mW1_s
    refine hP M11 ⟨⟨⟨g7.trans r1, g8.trans r2, g9.trans r3, g10.trans r4, g11.trans r5⟩, fun j hj => ?_, fun q hq => ?_, fun q hq => ?_, fun i hi => ?_, fun i hi => ?_, ?_, ?_⟩, fun d hd => ?_⟩
    · rw [show M11 (29 + 4) = M11 33 from rfl, e33, cpy_0 (by omega)]
      exact r6 j hj
    · rw [show M11 (29 + 2) = M11 31 from rfl, e31, cpy_0 hq]
      exact r7 q hq
    · rw [show M11 (29 + 3) = M11 32 from rfl, e32, cpy_0 hq]
      exact r8 q hq
    · rw [show M11 (29 + 5) = M11 34 from rfl, e34, cpy_0 (by omega)]
      exact r9 i hi
    · rw [show M11 (29 + 6) = M11 35 from rfl, e35, cpy_0 (by omega)]
      exact r10 i hi
    · rw [show M11 (29 + 7) = M11 36 from rfl, e36, cpy_0 (by omega)]
      exact r11
    · rw [show M11 (29 + 7) = M11 36 from rfl, e36, cpy_0 (by omega)]
      exact r12
    · rw [q6 d (by omega)]
      show mUp (mUp (mUp (mUp (mUp (mUp M 31 _) 32 _) 33 _) 34 _) 35 _) 36 _ d = _
      rw [mUp_ne (by omega), mUp_ne (by omega), mUp_ne (by omega), mUp_ne (by omega), mUp_ne (by omega), mUp_ne (by omega)]
  · exact absurd hlen hn
theorem ok_X2_become : mOK yX2_become cX2_become 2 (none) 2 t_X2_become := mOK.of f_X2_become (by decide) (fun _ => rfl) (fun g => mCodeOK kk_X2_become) (fun g => mFldL fk_RX2 rfl) (fun g idx v h => by cases h) (fun g idx v h => by cases h) (mCalL (l := l_X2_become) (List.forall_mem_cons.mpr ⟨mSite.SN (idx := 63) ok_X7_take (by decide) (by decide) wc_X7_take wm_RX2_63 wt_X7_take wn_RX7 wd_X7_take, List.forall_mem_cons.mpr ⟨mSite.V (idx := 41) ok_X2_begin (by decide) (by decide) rv_X2_begin wc_X2_begin wk_RX2_41 wi_X2_begin wl_X2_begin wn_RX2 wd_X2_begin, fun _ h => absurd h List.not_mem_nil⟩⟩) (fun _ => rfl)) run_X2_become

/-! the deal by a seed -/
def aSw (f : Nat → Nat) (i j : Nat) : Nat → Nat := fun k => if k = j then f i else if k = i then f j else f k
/-- n changes of places: the seed then, the deck then -/
def aSh (z : Int32) : Nat → Int32 × (Nat → Nat)
  | 0 => (z, fun k => k)
  | n + 1 => (fNext (aSh z n).1, aSw (aSh z n).2 (31 - n) (ub (fNext (aSh z n).1) / 512 % (32 - n)))
def aDeck (z : Int32) : Nat → Nat := (aSh z 31).2
theorem aSw_lt {f : Nat → Nat} {i j : Nat} (h : ∀ k, k < 32 → f k < 32) (hi : i < 32) (hj : j < 32) : ∀ k, k < 32 → aSw f i j k < 32 := fun k hk => by
  unfold aSw
  split
  · exact h i hi
  · split
    · exact h j hj
    · exact h k hk
theorem aSh_lt (z : Int32) : ∀ n, n ≤ 31 → ∀ k, k < 32 → (aSh z n).2 k < 32
  | 0, _, k, hk => hk
  | n + 1, hn, k, hk => by
    rw [aSh]
    exact aSw_lt (aSh_lt z n (by omega)) (by omega) (by have := Nat.mod_lt (ub (fNext (aSh z n).1) / 512) (show 0 < 32 - n by omega); omega) k hk
def aDl0 (z : Int32) (q : Nat) : Int32 := aBs (fun c => (List.range 32).any (fun j => decide (j / 8 = q) && decide (aDeck z j = c))) 32
theorem bt_aDl0 {z : Int32} {q c : Nat} (hc : c < 32) : bt (aDl0 z q) c = (List.range 32).any (fun j => decide (j / 8 = q) && decide (aDeck z j = c)) := by
  rw [aDl0, bt_aBs hc (Nat.le_refl _), decide_eq_true hc]
  simp
def aX0 : aX := (nI 4, 0, 0, 0)
def pre_X2_dealOut (q : Nat × Int32) (as : List mV) (_ : mM) : Prop := pl_X2 q.1 = true ∧ as = [.inr (some q.1), .inl q.2]
def post_X2_dealOut (q : Nat × Int32) (_ : List mV) (M : mM) (M' : mM) : Prop := RpP q.1 M' aX0 (aDl0 q.2) 0 0 [] ∧ FrP q.1 M M'
abbrev t_X2_dealOut : mG → mT := mRv pre_X2_dealOut post_X2_dealOut
theorem mo_X2_dealOut : mMn t_X2_dealOut := mRv_mono
theorem rv_X2_dealOut : mHasR yX2_dealOut 1 t_X2_dealOut := by
  intro g as M P hT hl
  obtain ⟨q, ⟨h1, h2⟩, -⟩ := hT
  exact ⟨_, _, h2, is_X2 g _ h1⟩
theorem pcS9 (z : Int32) : (z.toUInt32 >>> ((nI 9).toUInt32 &&& Int32.toUInt32 31)).toInt32 = nI (ub z / 512) := by
  have h := ub_sh z 9 (by decide)
  have hl := ub_lt z
  exact ub_inj (by rw [ub_nI (by omega)]; exact h)
theorem nI_s1 {n : Nat} (h : 0 < n) : nI n + -1 = nI (n - 1) := by
  obtain ⟨k, rfl⟩ : ∃ k, n = k + 1 := ⟨n - 1, by omega⟩
  exact pk_m1 k
def k_X2_dealOut : List (Nat × mI) := [(0, .aload_n 0, 1, 0, 0, []),
  (1, .invokevirtual 45, 3, 0, 0, []),
  (4, .iconst 0, 1, 0, nI 0, []),
  (5, .istore_n 2, 1, 2, 0, []),
  (6, .iload_n 2, 1, 2, 0, []),
  (7, .bipush 32, 2, 0, nI 32, []),
  (9, .if_icmp .ge 18, 3, 27, 0, []),
  (12, .aload_n 0, 1, 0, 0, []),
  (13, .getfield 9, 3, 0, 0, []),
  (16, .iload_n 2, 1, 2, 0, []),
  (17, .iload_n 2, 1, 2, 0, []),
  (18, .invokestatic 48, 3, 0, 0, []),
  (21, .iinc 2 1, 3, 2, nI 1, []),
  (24, .goto (-18), 3, 6, 0, []),
  (27, .iload_n 1, 1, 1, 0, []),
  (28, .istore_n 2, 1, 2, 0, []),
  (29, .bipush 31, 2, 0, nI 31, []),
  (31, .istore_n 3, 1, 3, 0, []),
  (32, .iload_n 3, 1, 3, 0, []),
  (33, .ifCond .le 62, 3, 95, 0, []),
  (36, .iload_n 2, 1, 2, 0, []),
  (37, .invokestatic 52, 3, 0, 0, []),
  (40, .istore_n 2, 1, 2, 0, []),
  (41, .iload_n 2, 1, 2, 0, []),
  (42, .bipush 9, 2, 0, nI 9, []),
  (44, .iushr, 1, 0, 0, []),
  (45, .iload_n 3, 1, 3, 0, []),
  (46, .iconst 1, 1, 0, nI 1, []),
  (47, .iadd, 1, 0, 0, []),
  (48, .irem, 1, 0, 0, []),
  (49, .istore 4, 2, 4, 0, []),
  (51, .aload_n 0, 1, 0, 0, []),
  (52, .getfield 9, 3, 0, 0, []),
  (55, .iload_n 3, 1, 3, 0, []),
  (56, .invokestatic 56, 3, 0, 0, []),
  (59, .istore 5, 2, 5, 0, []),
  (61, .aload_n 0, 1, 0, 0, []),
  (62, .getfield 9, 3, 0, 0, []),
  (65, .iload_n 3, 1, 3, 0, []),
  (66, .aload_n 0, 1, 0, 0, []),
  (67, .getfield 9, 3, 0, 0, []),
  (70, .iload 4, 2, 4, 0, []),
  (72, .invokestatic 56, 3, 0, 0, []),
  (75, .invokestatic 48, 3, 0, 0, []),
  (78, .aload_n 0, 1, 0, 0, []),
  (79, .getfield 9, 3, 0, 0, []),
  (82, .iload 4, 2, 4, 0, []),
  (84, .iload 5, 2, 5, 0, []),
  (86, .invokestatic 48, 3, 0, 0, []),
  (89, .iinc 3 (-1), 3, 3, -1, []),
  (92, .goto (-60), 3, 32, 0, []),
  (95, .iconst 0, 1, 0, nI 0, []),
  (96, .istore_n 3, 1, 3, 0, []),
  (97, .iload_n 3, 1, 3, 0, []),
  (98, .bipush 32, 2, 0, nI 32, []),
  (100, .if_icmp .ge 45, 3, 145, 0, []),
  (103, .iload_n 3, 1, 3, 0, []),
  (104, .bipush 8, 2, 0, nI 8, []),
  (106, .idiv, 1, 0, 0, []),
  (107, .istore 4, 2, 4, 0, []),
  (109, .aload_n 0, 1, 0, 0, []),
  (110, .getfield 15, 3, 0, 0, []),
  (113, .iload 4, 2, 4, 0, []),
  (115, .aload_n 0, 1, 0, 0, []),
  (116, .getfield 15, 3, 0, 0, []),
  (119, .iload 4, 2, 4, 0, []),
  (121, .invokestatic 56, 3, 0, 0, []),
  (124, .aload_n 0, 1, 0, 0, []),
  (125, .getfield 9, 3, 0, 0, []),
  (128, .iload_n 3, 1, 3, 0, []),
  (129, .invokestatic 56, 3, 0, 0, []),
  (132, .invokestatic 60, 3, 0, 0, []),
  (135, .ior, 1, 0, 0, []),
  (136, .invokestatic 48, 3, 0, 0, []),
  (139, .iinc 3 1, 3, 3, nI 1, []),
  (142, .goto (-45), 3, 97, 0, []),
  (145, .aload_n 0, 1, 0, 0, []),
  (146, .getfield 15, 3, 0, 0, []),
  (149, .aload_n 0, 1, 0, 0, []),
  (150, .getfield 18, 3, 0, 0, []),
  (153, .invokestatic 63, 3, 0, 0, []),
  (156, .return_, 1, 0, 0, [])]
theorem kk_X2_dealOut : (k_X2_dealOut.all fun e => mChk cX2_dealOut e.1 e.2) = true := by decide +kernel
def l_X2_dealOut : List (Nat × Nat × (mG → mT)) := [(3 * 45, 0 + 1, t_X2_clear), (3 * 48 + 1, 3, t_X7_set), (3 * 52 + 1, 1, t_X7_nextSeed), (3 * 56 + 1, 2, t_X7_at), (3 * 60 + 1, 1, t_X7_bitOf), (3 * 63 + 1, 2, t_X7_take)]
def f_X2_dealOut (g : mG) : mF := (mLk k_X2_dealOut, mLk fl_RX2, mLk (l_X2_dealOut.map fun e => (e.1, e.2.1, e.2.2 g)), mLk ([] : List (Nat × mV)), mLk ([] : List (Nat × mV)), none)
theorem m_X2_dealOut (g : mG) : mMono (f_X2_dealOut g) := mMonoL (g := g) (l := l_X2_dealOut) (List.forall_mem_cons.mpr ⟨mo_X2_clear, List.forall_mem_cons.mpr ⟨mo_X7_set, List.forall_mem_cons.mpr ⟨mo_X7_nextSeed, List.forall_mem_cons.mpr ⟨mo_X7_at, List.forall_mem_cons.mpr ⟨mo_X7_bitOf, List.forall_mem_cons.mpr ⟨mo_X7_take, fun _ h => absurd h List.not_mem_nil⟩⟩⟩⟩⟩⟩) rfl

theorem v_do_0_16 (g : mG) (M : mM) (P : mP) (z : Int32)
    (h : let M1 : mM := mUp M 18 (aFill (M 18) 4 (nI 0)); let M2 : mM := mUp M1 19 (aFill (M 19) 4 (nI 0)); let M3 : mM := mUp M2 23 (aFill (M 23) 2 (nI 0)); let M4 : mM := mW1 M3 16 7 (nI 0); let M5 : mM := mW1 M4 16 8 (nI 0); let M6 : mM := mW1 M5 16 9 (nI 4); let M7 : mM := mW1 M6 16 10 (nI 0); let M8 : mM := mW1 M7 16 11 (nI 0); mRun (mSx g) (f_X2_dealOut g) P (6, [some (.inr (some 16)), some (.inl z), some (.inl (nI 0)), none, none, none], [], M8)) :
    mRun (mSx g) (f_X2_dealOut g) P (0, [some (.inr (some 16)), some (.inl z), none, none, none, none], [], M) := mRun.vc (m_X2_dealOut g) [6] 5 h

theorem v_do_6_16 (g : mG) (M : mM) (P : mP) (z i : Int32) (l3 l4 l5 : Option mV)
    (h : ((nI 32) ≤ i → mRun (mSx g) (f_X2_dealOut g) P (32, [some (.inr (some 16)), some (.inl z), some (.inl z), some (.inl (nI 31)), l4, l5], [], M)) ∧ (¬ (nI 32) ≤ i → let M1 : mM := mUp M 17 (aSet (M 17) 32 i i); mRun (mSx g) (f_X2_dealOut g) P (6, [some (.inr (some 16)), some (.inl z), some (.inl (i + (nI 1))), l3, l4, l5], [], M1))) :
    mRun (mSx g) (f_X2_dealOut g) P (6, [some (.inr (some 16)), some (.inl z), some (.inl i), l3, l4, l5], [], M) := mRun.vc (m_X2_dealOut g) [6, 32] 11 h

theorem v_do_32_16 (g : mG) (M : mM) (P : mP) (z y i : Int32) (l4 l5 : Option mV)
    (h : (i ≤ 0 → mRun (mSx g) (f_X2_dealOut g) P (97, [some (.inr (some 16)), some (.inl z), some (.inl y), some (.inl (nI 0)), l4, l5], [], M)) ∧ (¬ i ≤ 0 → ¬ (i + (nI 1)) = 0 ∧ (let v1 : Int32 := (((fNext y).toUInt32 >>> ((nI 9).toUInt32 &&& Int32.toUInt32 31)).toInt32) - (((fNext y).toUInt32 >>> ((nI 9).toUInt32 &&& Int32.toUInt32 31)).toInt32) / (i + (nI 1)) * (i + (nI 1)); let M2 : mM := mUp M 17 (aSet (M 17) 32 i (aAt (M 17) 32 v1)); let M3 : mM := mUp M2 17 (aSet (M2 17) 32 v1 (aAt (M 17) 32 i)); mRun (mSx g) (f_X2_dealOut g) P (32, [some (.inr (some 16)), some (.inl z), some (.inl (fNext y)), some (.inl (i + (-1))), some (.inl v1), some (.inl (aAt (M 17) 32 i))], [], M3)))) :
    mRun (mSx g) (f_X2_dealOut g) P (32, [some (.inr (some 16)), some (.inl z), some (.inl y), some (.inl i), l4, l5], [], M) := mRun.vc (m_X2_dealOut g) [32, 97] 34 h

theorem v_do_97_16 (g : mG) (M : mM) (P : mP) (z y i : Int32) (l4 l5 : Option mV)
    (h : ((nI 32) ≤ i → let M1 : mM := mUp M 19 (va_cpy (M 18) (M 19) 0 0 4); P none M1) ∧ (¬ (nI 32) ≤ i → ¬ (nI 8) = 0 ∧ (let M2 : mM := mUp M 18 (aSet (M 18) 4 (i / (nI 8)) ((aAt (M 18) 4 (i / (nI 8))) ||| (fBit (aAt (M 17) 32 i)))); mRun (mSx g) (f_X2_dealOut g) P (97, [some (.inr (some 16)), some (.inl z), some (.inl y), some (.inl (i + (nI 1))), some (.inl (i / (nI 8))), l5], [], M2)))) :
    mRun (mSx g) (f_X2_dealOut g) P (97, [some (.inr (some 16)), some (.inl z), some (.inl y), some (.inl i), l4, l5], [], M) := mRun.vc (m_X2_dealOut g) [97] 24 h

/-- what a deal's play holds but for dealt, hands and the deck -/
def doK_16 (M0 M : mM) : Prop := M 16 7 = nI 0 ∧ M 16 8 = nI 0 ∧ M 16 9 = nI 4 ∧ M 16 10 = nI 0 ∧ M 16 11 = nI 0 ∧ M 23 0 = nI 0 ∧ M 23 1 = nI 0 ∧ FrP 16 M0 M
theorem doK_up_16 {M0 M : mM} {d : Nat} {f : Nat → Int32} (h : doK_16 M0 M) (hd : d = 17 ∨ d = 18 ∨ d = 19) : doK_16 M0 (mUp M d f) := by
  obtain ⟨h1, h2, h3, h4, h5, h6, h7, h8⟩ := h
  have e : ∀ c, c ≠ d → mUp M d f c = M c := fun c hc => mUp_ne hc
  refine ⟨by rw [e _ (by omega)]; exact h1, by rw [e _ (by omega)]; exact h2, by rw [e _ (by omega)]; exact h3, by rw [e _ (by omega)]; exact h4, by rw [e _ (by omega)]; exact h5, by rw [e _ (by omega)]; exact h6, by rw [e _ (by omega)]; exact h7, fun c hc => by rw [e _ (by omega)]; exact h8 c hc⟩
theorem do_c_16 (g : mG) (P : mP) (z y : Int32) (M0 : mM) (hP : ∀ M', RpP 16 M' aX0 (aDl0 z) 0 0 [] → FrP 16 M0 M' → P none M') :
    ∀ (n i : Nat) (M : mM) (l4 l5 : Option mV), i + n = 32 → doK_16 M0 M → (∀ j, j < 32 → M 17 j = nI (aDeck z j)) → (∀ q c, q < 4 → c < 32 → bt (M 18 q) c = (List.range i).any (fun j => decide (j / 8 = q) && decide (aDeck z j = c))) → mRun (mSx g) (f_X2_dealOut g) P (97, [some (.inr (some 16)), some (.inl z), some (.inl y), some (.inl (nI i)), l4, l5], [], M)
  | 0, i, M, l4, l5, hi, hK, hd, hq => by
    obtain rfl : i = 32 := by omega
    refine v_do_97_16 g M P z y (nI 32) l4 l5 ⟨fun _ => ?_, fun w => absurd (nI_le (Nat.le_refl _) (by decide)) w⟩
    intro M1
    have hdl : ∀ q, q < 4 → M 18 q = aDl0 z q := fun q hq4 => bt_ext (fun c hc => by rw [hq q c hq4 hc, bt_aDl0 hc])
    obtain ⟨h1, h2, h3, h4, h5, h6, h7, h8⟩ := doK_up_16 (d := 19) (f := va_cpy (M 18) (M 19) 0 0 4) hK (Or.inr (Or.inr rfl))
    refine hP M1 ⟨⟨h1, h2, h3, h4, h5⟩, fun j hj => absurd hj (Nat.not_lt_zero _), fun q hq4 => ?_, fun q hq4 => ?_, fun i hi => absurd hi (by simp), fun i hi => absurd hi (by simp), h6, h7⟩ h8
    · rw [show M1 (16 + 2) = M 18 from mUp_ne (by decide)]
      exact hdl q hq4
    · rw [show M1 (16 + 3) = va_cpy (M 18) (M 19) 0 0 4 from mUp_at, cpy_0 hq4, hdl q hq4]
      refine bt_ext (fun i hi => ?_)
      rw [bt_aHd (fun c hc => by cases hc) hi]
      simp
  | n + 1, i, M, l4, l5, hi, hK, hd, hq => by
    have hlt : aDeck z i < 32 := aSh_lt z 31 (Nat.le_refl _) i (by omega)
    have e1 : nI i / nI 8 = nI (i / 8) := nI_div8 (by omega)
    have e2 : aAt (M 17) 32 (nI i) = nI (aDeck z i) := by rw [aAt_in (by omega) (by decide)]; exact hd i (by omega)
    refine v_do_97_16 g M P z y (nI i) l4 l5 ⟨fun w => absurd w (nI_ge (by omega) (by decide)), fun _ => ⟨n8, ?_⟩⟩
    rw [e1, e2, aAt_in (by omega) (by decide), nI_add]
    intro M1
    have eM : M1 18 = upd (M 18) (i / 8) (M 18 (i / 8) ||| fBit (nI (aDeck z i))) := by
      show mUp M 18 (aSet (M 18) 4 (nI (i / 8)) _) 18 = _
      rw [mUp_at, aSet_in (by omega) (by decide)]
    refine do_c_16 g P z y M0 hP n (i + 1) M1 _ l5 (by omega) (doK_up_16 hK (Or.inr (Or.inl rfl))) (fun j hj => by rw [show M1 17 = M 17 from mUp_ne (by decide)]; exact hd j hj) (fun q c hq4 hc => ?_)
    rw [eM, List.range_succ, List.any_append]
    by_cases e : q = i / 8
    · rw [← e, upd_s, bt_or, hq q c hq4 hc, bt_fBit _ hlt c hc]
      simp [e, eq_comm]
    · rw [upd_n e, hq q c hq4 hc]
      simp [Ne.symm e]
theorem do_b_16 (g : mG) (P : mP) (z : Int32) (M0 : mM) (hP : ∀ M', RpP 16 M' aX0 (aDl0 z) 0 0 [] → FrP 16 M0 M' → P none M') :
    ∀ (m n : Nat) (M : mM) (l4 l5 : Option mV), n + m = 31 → doK_16 M0 M → (∀ j, j < 32 → M 17 j = nI ((aSh z n).2 j)) → (∀ q, q < 4 → M 18 q = 0) → mRun (mSx g) (f_X2_dealOut g) P (32, [some (.inr (some 16)), some (.inl z), some (.inl (aSh z n).1), some (.inl (nI (31 - n))), l4, l5], [], M)
  | 0, n, M, l4, l5, hn, hK, hd, hq => by
    obtain rfl : n = 31 := by omega
    refine v_do_32_16 g M P z _ (nI (31 - 31)) l4 l5 ⟨fun _ => ?_, fun w => absurd (by decide) w⟩
    exact do_c_16 g P z _ M0 hP 32 0 M l4 l5 rfl hK hd (fun q c hq4 hc => by rw [hq q hq4, bt_0]; rfl)
  | m + 1, n, M, l4, l5, hn, hK, hd, hq => by
    have hy : (aSh z (n + 1)).1 = fNext (aSh z n).1 := rfl
    have hf : (aSh z (n + 1)).2 = aSw (aSh z n).2 (31 - n) (ub (fNext (aSh z n).1) / 512 % (32 - n)) := rfl
    have hj := Nat.mod_lt (ub (fNext (aSh z n).1) / 512) (show 0 < 32 - n by omega)
    have hub := ub_lt (fNext (aSh z n).1)
    refine v_do_32_16 g M P z _ (nI (31 - n)) l4 l5 ⟨fun w => absurd w (nI_nle (by omega) (by omega)), fun _ => ⟨by rw [nI_add]; exact nI_ne0 (by omega) (by omega), ?_⟩⟩
    rw [nI_add, show 31 - n + 1 = 32 - n by omega, pcS9, pk_rem (by omega) (by omega) (by omega), ← hy]
    rw [hy]
    generalize hjj : ub (fNext (aSh z n).1) / 512 % (32 - n) = jj at *
    intro v1 M2 M3
    have hv1 : v1 = nI jj := rfl
    have r1 : M2 17 = upd (M 17) (31 - n) (M 17 jj) := by
      show mUp M 17 (aSet (M 17) 32 (nI (31 - n)) (aAt (M 17) 32 v1)) 17 = _
      rw [mUp_at, hv1, aSet_in (by omega) (by decide), aAt_in (by omega) (by decide)]
    have r2 : M3 17 = upd (M2 17) jj (M 17 (31 - n)) := by
      show mUp M2 17 (aSet (M2 17) 32 v1 (aAt (M 17) 32 (nI (31 - n)))) 17 = _
      rw [mUp_at, hv1, aSet_in (by omega) (by decide), aAt_in (by omega) (by decide)]
    have hK3 : doK_16 M0 M3 := doK_up_16 (doK_up_16 hK (Or.inl rfl)) (Or.inl rfl)
    have := do_b_16 g P z M0 hP m (n + 1) M3 (some (.inl v1)) (some (.inl (aAt (M 17) 32 (nI (31 - n))))) (by omega) hK3 (fun j hj2 => by
      rw [r2, r1, hf]
      unfold aSw
      by_cases e1 : j = jj
      · rw [e1, upd_s, if_pos rfl, hd _ (by omega)]
      · rw [upd_n e1, if_neg e1]
        by_cases e2 : j = 31 - n
        · rw [e2, upd_s, if_pos rfl, hd _ (by omega)]
        · rw [upd_n e2, if_neg e2]
          exact hd j hj2) (fun q hq4 => by rw [show M3 18 = M 18 from by show mUp (mUp M 17 _) 17 _ 18 = _; rw [mUp_ne (by decide), mUp_ne (by decide)]]; exact hq q hq4)
    rw [nI_s1 (by omega), show 31 - n - 1 = 31 - (n + 1) by omega]
    exact this
theorem do_a_16 (g : mG) (P : mP) (z : Int32) (M0 : mM) (hP : ∀ M', RpP 16 M' aX0 (aDl0 z) 0 0 [] → FrP 16 M0 M' → P none M') :
    ∀ (m i : Nat) (M : mM) (l3 l4 l5 : Option mV), i + m = 32 → doK_16 M0 M → (∀ j, j < i → M 17 j = nI j) → (∀ q, q < 4 → M 18 q = 0) → mRun (mSx g) (f_X2_dealOut g) P (6, [some (.inr (some 16)), some (.inl z), some (.inl (nI i)), l3, l4, l5], [], M)
  | 0, i, M, l3, l4, l5, hi, hK, hd, hq => by
    obtain rfl : i = 32 := by omega
    refine v_do_6_16 g M P z (nI 32) l3 l4 l5 ⟨fun _ => ?_, fun w => absurd (nI_le (Nat.le_refl _) (by decide)) w⟩
    exact do_b_16 g P z M0 hP 31 0 M l4 l5 rfl hK hd hq
  | m + 1, i, M, l3, l4, l5, hi, hK, hd, hq => by
    refine v_do_6_16 g M P z (nI i) l3 l4 l5 ⟨fun w => absurd w (nI_ge (by omega) (by decide)), fun _ => ?_⟩
    rw [nI_add]
    intro M1
    have r1 : M1 17 = upd (M 17) i (nI i) := by
      show mUp M 17 (aSet (M 17) 32 (nI i) (nI i)) 17 = _
      rw [mUp_at, aSet_in (by omega) (by decide)]
    refine do_a_16 g P z M0 hP m (i + 1) M1 l3 l4 l5 (by omega) (doK_up_16 hK (Or.inl rfl)) (fun j hj => ?_) (fun q hq4 => by rw [show M1 18 = M 18 from mUp_ne (by decide)]; exact hq q hq4)
    rw [r1]
    by_cases e : j = i
    · rw [e, upd_s]
    · rw [upd_n e]
      exact hd j (by omega)
theorem do_run_16 (g : mG) (M : mM) (P : mP) (z : Int32) (hP : ∀ M', RpP 16 M' aX0 (aDl0 z) 0 0 [] → FrP 16 M M' → P none M') : mRun (mSx g) (f_X2_dealOut g) P (0, [some (.inr (some 16)), some (.inl z), none, none, none, none], [], M) := by
  refine v_do_0_16 g M P z ?_
  intro M1 M2 M3 M4 M5 M6 M7 M8
  have f8 : ∀ d, d ≠ 16 → M8 d = M3 d := fun d h => by
    show mW1 (mW1 (mW1 (mW1 (mW1 M3 16 7 _) 16 8 _) 16 9 _) 16 10 _) 16 11 _ d = _
    rw [mW1_c h, mW1_c h, mW1_c h, mW1_c h, mW1_c h]
  have e2 : M8 18 = aFill (M 18) 4 (nI 0) := by
    rw [f8 _ (by decide)]
    show mUp (mUp M1 19 _) 23 _ 18 = _
    rw [mUp_ne (by decide), mUp_ne (by decide)]
    exact mUp_at
  have e7 : M8 23 = aFill (M 23) 2 (nI 0) := by
    rw [f8 _ (by decide)]
    exact mUp_at
  refine do_a_16 g P z M hP 32 0 M8 none none none rfl ⟨?_, ?_, ?_, ?_, mW1_s, ?_, ?_, fun d hd => ?_⟩ (fun j hj => absurd hj (Nat.not_lt_zero _)) (fun q hq => ?_)
  · show mW1 (mW1 (mW1 (mW1 (mW1 M3 16 7 _) 16 8 _) 16 9 _) 16 10 _) 16 11 _ 16 7 = _
    rw [mW1_k (by decide), mW1_k (by decide), mW1_k (by decide), mW1_k (by decide), mW1_s]
  · show mW1 (mW1 (mW1 (mW1 M4 16 8 _) 16 9 _) 16 10 _) 16 11 _ 16 8 = _
    rw [mW1_k (by decide), mW1_k (by decide), mW1_k (by decide), mW1_s]
  · show mW1 (mW1 (mW1 M5 16 9 _) 16 10 _) 16 11 _ 16 9 = _
    rw [mW1_k (by decide), mW1_k (by decide), mW1_s]
  · show mW1 (mW1 M6 16 10 _) 16 11 _ 16 10 = _
    rw [mW1_k (by decide), mW1_s]
  · rw [e7]
    rfl
  · rw [e7]
    rfl
  · rw [f8 d (by omega)]
    show mUp (mUp (mUp M 18 _) 19 _) 23 _ d = _
    rw [mUp_ne (by omega), mUp_ne (by omega), mUp_ne (by omega)]
  · rw [e2]
    unfold aFill
    rw [if_pos hq]
    rfl
theorem v_do_0_29 (g : mG) (M : mM) (P : mP) (z : Int32)
    (h : let M1 : mM := mUp M 31 (aFill (M 31) 4 (nI 0)); let M2 : mM := mUp M1 32 (aFill (M 32) 4 (nI 0)); let M3 : mM := mUp M2 36 (aFill (M 36) 2 (nI 0)); let M4 : mM := mW1 M3 29 7 (nI 0); let M5 : mM := mW1 M4 29 8 (nI 0); let M6 : mM := mW1 M5 29 9 (nI 4); let M7 : mM := mW1 M6 29 10 (nI 0); let M8 : mM := mW1 M7 29 11 (nI 0); mRun (mSx g) (f_X2_dealOut g) P (6, [some (.inr (some 29)), some (.inl z), some (.inl (nI 0)), none, none, none], [], M8)) :
    mRun (mSx g) (f_X2_dealOut g) P (0, [some (.inr (some 29)), some (.inl z), none, none, none, none], [], M) := mRun.vc (m_X2_dealOut g) [6] 5 h

theorem v_do_6_29 (g : mG) (M : mM) (P : mP) (z i : Int32) (l3 l4 l5 : Option mV)
    (h : ((nI 32) ≤ i → mRun (mSx g) (f_X2_dealOut g) P (32, [some (.inr (some 29)), some (.inl z), some (.inl z), some (.inl (nI 31)), l4, l5], [], M)) ∧ (¬ (nI 32) ≤ i → let M1 : mM := mUp M 30 (aSet (M 30) 32 i i); mRun (mSx g) (f_X2_dealOut g) P (6, [some (.inr (some 29)), some (.inl z), some (.inl (i + (nI 1))), l3, l4, l5], [], M1))) :
    mRun (mSx g) (f_X2_dealOut g) P (6, [some (.inr (some 29)), some (.inl z), some (.inl i), l3, l4, l5], [], M) := mRun.vc (m_X2_dealOut g) [6, 32] 11 h

theorem v_do_32_29 (g : mG) (M : mM) (P : mP) (z y i : Int32) (l4 l5 : Option mV)
    (h : (i ≤ 0 → mRun (mSx g) (f_X2_dealOut g) P (97, [some (.inr (some 29)), some (.inl z), some (.inl y), some (.inl (nI 0)), l4, l5], [], M)) ∧ (¬ i ≤ 0 → ¬ (i + (nI 1)) = 0 ∧ (let v1 : Int32 := (((fNext y).toUInt32 >>> ((nI 9).toUInt32 &&& Int32.toUInt32 31)).toInt32) - (((fNext y).toUInt32 >>> ((nI 9).toUInt32 &&& Int32.toUInt32 31)).toInt32) / (i + (nI 1)) * (i + (nI 1)); let M2 : mM := mUp M 30 (aSet (M 30) 32 i (aAt (M 30) 32 v1)); let M3 : mM := mUp M2 30 (aSet (M2 30) 32 v1 (aAt (M 30) 32 i)); mRun (mSx g) (f_X2_dealOut g) P (32, [some (.inr (some 29)), some (.inl z), some (.inl (fNext y)), some (.inl (i + (-1))), some (.inl v1), some (.inl (aAt (M 30) 32 i))], [], M3)))) :
    mRun (mSx g) (f_X2_dealOut g) P (32, [some (.inr (some 29)), some (.inl z), some (.inl y), some (.inl i), l4, l5], [], M) := mRun.vc (m_X2_dealOut g) [32, 97] 34 h

theorem v_do_97_29 (g : mG) (M : mM) (P : mP) (z y i : Int32) (l4 l5 : Option mV)
    (h : ((nI 32) ≤ i → let M1 : mM := mUp M 32 (va_cpy (M 31) (M 32) 0 0 4); P none M1) ∧ (¬ (nI 32) ≤ i → ¬ (nI 8) = 0 ∧ (let M2 : mM := mUp M 31 (aSet (M 31) 4 (i / (nI 8)) ((aAt (M 31) 4 (i / (nI 8))) ||| (fBit (aAt (M 30) 32 i)))); mRun (mSx g) (f_X2_dealOut g) P (97, [some (.inr (some 29)), some (.inl z), some (.inl y), some (.inl (i + (nI 1))), some (.inl (i / (nI 8))), l5], [], M2)))) :
    mRun (mSx g) (f_X2_dealOut g) P (97, [some (.inr (some 29)), some (.inl z), some (.inl y), some (.inl i), l4, l5], [], M) := mRun.vc (m_X2_dealOut g) [97] 24 h

/-- what a deal's play holds but for dealt, hands and the deck -/
def doK_29 (M0 M : mM) : Prop := M 29 7 = nI 0 ∧ M 29 8 = nI 0 ∧ M 29 9 = nI 4 ∧ M 29 10 = nI 0 ∧ M 29 11 = nI 0 ∧ M 36 0 = nI 0 ∧ M 36 1 = nI 0 ∧ FrP 29 M0 M
theorem doK_up_29 {M0 M : mM} {d : Nat} {f : Nat → Int32} (h : doK_29 M0 M) (hd : d = 30 ∨ d = 31 ∨ d = 32) : doK_29 M0 (mUp M d f) := by
  obtain ⟨h1, h2, h3, h4, h5, h6, h7, h8⟩ := h
  have e : ∀ c, c ≠ d → mUp M d f c = M c := fun c hc => mUp_ne hc
  refine ⟨by rw [e _ (by omega)]; exact h1, by rw [e _ (by omega)]; exact h2, by rw [e _ (by omega)]; exact h3, by rw [e _ (by omega)]; exact h4, by rw [e _ (by omega)]; exact h5, by rw [e _ (by omega)]; exact h6, by rw [e _ (by omega)]; exact h7, fun c hc => by rw [e _ (by omega)]; exact h8 c hc⟩
theorem do_c_29 (g : mG) (P : mP) (z y : Int32) (M0 : mM) (hP : ∀ M', RpP 29 M' aX0 (aDl0 z) 0 0 [] → FrP 29 M0 M' → P none M') :
    ∀ (n i : Nat) (M : mM) (l4 l5 : Option mV), i + n = 32 → doK_29 M0 M → (∀ j, j < 32 → M 30 j = nI (aDeck z j)) → (∀ q c, q < 4 → c < 32 → bt (M 31 q) c = (List.range i).any (fun j => decide (j / 8 = q) && decide (aDeck z j = c))) → mRun (mSx g) (f_X2_dealOut g) P (97, [some (.inr (some 29)), some (.inl z), some (.inl y), some (.inl (nI i)), l4, l5], [], M)
  | 0, i, M, l4, l5, hi, hK, hd, hq => by
    obtain rfl : i = 32 := by omega
    refine v_do_97_29 g M P z y (nI 32) l4 l5 ⟨fun _ => ?_, fun w => absurd (nI_le (Nat.le_refl _) (by decide)) w⟩
    intro M1
    have hdl : ∀ q, q < 4 → M 31 q = aDl0 z q := fun q hq4 => bt_ext (fun c hc => by rw [hq q c hq4 hc, bt_aDl0 hc])
    obtain ⟨h1, h2, h3, h4, h5, h6, h7, h8⟩ := doK_up_29 (d := 32) (f := va_cpy (M 31) (M 32) 0 0 4) hK (Or.inr (Or.inr rfl))
    refine hP M1 ⟨⟨h1, h2, h3, h4, h5⟩, fun j hj => absurd hj (Nat.not_lt_zero _), fun q hq4 => ?_, fun q hq4 => ?_, fun i hi => absurd hi (by simp), fun i hi => absurd hi (by simp), h6, h7⟩ h8
    · rw [show M1 (29 + 2) = M 31 from mUp_ne (by decide)]
      exact hdl q hq4
    · rw [show M1 (29 + 3) = va_cpy (M 31) (M 32) 0 0 4 from mUp_at, cpy_0 hq4, hdl q hq4]
      refine bt_ext (fun i hi => ?_)
      rw [bt_aHd (fun c hc => by cases hc) hi]
      simp
  | n + 1, i, M, l4, l5, hi, hK, hd, hq => by
    have hlt : aDeck z i < 32 := aSh_lt z 31 (Nat.le_refl _) i (by omega)
    have e1 : nI i / nI 8 = nI (i / 8) := nI_div8 (by omega)
    have e2 : aAt (M 30) 32 (nI i) = nI (aDeck z i) := by rw [aAt_in (by omega) (by decide)]; exact hd i (by omega)
    refine v_do_97_29 g M P z y (nI i) l4 l5 ⟨fun w => absurd w (nI_ge (by omega) (by decide)), fun _ => ⟨n8, ?_⟩⟩
    rw [e1, e2, aAt_in (by omega) (by decide), nI_add]
    intro M1
    have eM : M1 31 = upd (M 31) (i / 8) (M 31 (i / 8) ||| fBit (nI (aDeck z i))) := by
      show mUp M 31 (aSet (M 31) 4 (nI (i / 8)) _) 31 = _
      rw [mUp_at, aSet_in (by omega) (by decide)]
    refine do_c_29 g P z y M0 hP n (i + 1) M1 _ l5 (by omega) (doK_up_29 hK (Or.inr (Or.inl rfl))) (fun j hj => by rw [show M1 30 = M 30 from mUp_ne (by decide)]; exact hd j hj) (fun q c hq4 hc => ?_)
    rw [eM, List.range_succ, List.any_append]
    by_cases e : q = i / 8
    · rw [← e, upd_s, bt_or, hq q c hq4 hc, bt_fBit _ hlt c hc]
      simp [e, eq_comm]
    · rw [upd_n e, hq q c hq4 hc]
      simp [Ne.symm e]
theorem do_b_29 (g : mG) (P : mP) (z : Int32) (M0 : mM) (hP : ∀ M', RpP 29 M' aX0 (aDl0 z) 0 0 [] → FrP 29 M0 M' → P none M') :
    ∀ (m n : Nat) (M : mM) (l4 l5 : Option mV), n + m = 31 → doK_29 M0 M → (∀ j, j < 32 → M 30 j = nI ((aSh z n).2 j)) → (∀ q, q < 4 → M 31 q = 0) → mRun (mSx g) (f_X2_dealOut g) P (32, [some (.inr (some 29)), some (.inl z), some (.inl (aSh z n).1), some (.inl (nI (31 - n))), l4, l5], [], M)
  | 0, n, M, l4, l5, hn, hK, hd, hq => by
    obtain rfl : n = 31 := by omega
    refine v_do_32_29 g M P z _ (nI (31 - 31)) l4 l5 ⟨fun _ => ?_, fun w => absurd (by decide) w⟩
    exact do_c_29 g P z _ M0 hP 32 0 M l4 l5 rfl hK hd (fun q c hq4 hc => by rw [hq q hq4, bt_0]; rfl)
  | m + 1, n, M, l4, l5, hn, hK, hd, hq => by
    have hy : (aSh z (n + 1)).1 = fNext (aSh z n).1 := rfl
    have hf : (aSh z (n + 1)).2 = aSw (aSh z n).2 (31 - n) (ub (fNext (aSh z n).1) / 512 % (32 - n)) := rfl
    have hj := Nat.mod_lt (ub (fNext (aSh z n).1) / 512) (show 0 < 32 - n by omega)
    have hub := ub_lt (fNext (aSh z n).1)
    refine v_do_32_29 g M P z _ (nI (31 - n)) l4 l5 ⟨fun w => absurd w (nI_nle (by omega) (by omega)), fun _ => ⟨by rw [nI_add]; exact nI_ne0 (by omega) (by omega), ?_⟩⟩
    rw [nI_add, show 31 - n + 1 = 32 - n by omega, pcS9, pk_rem (by omega) (by omega) (by omega), ← hy]
    rw [hy]
    generalize hjj : ub (fNext (aSh z n).1) / 512 % (32 - n) = jj at *
    intro v1 M2 M3
    have hv1 : v1 = nI jj := rfl
    have r1 : M2 30 = upd (M 30) (31 - n) (M 30 jj) := by
      show mUp M 30 (aSet (M 30) 32 (nI (31 - n)) (aAt (M 30) 32 v1)) 30 = _
      rw [mUp_at, hv1, aSet_in (by omega) (by decide), aAt_in (by omega) (by decide)]
    have r2 : M3 30 = upd (M2 30) jj (M 30 (31 - n)) := by
      show mUp M2 30 (aSet (M2 30) 32 v1 (aAt (M 30) 32 (nI (31 - n)))) 30 = _
      rw [mUp_at, hv1, aSet_in (by omega) (by decide), aAt_in (by omega) (by decide)]
    have hK3 : doK_29 M0 M3 := doK_up_29 (doK_up_29 hK (Or.inl rfl)) (Or.inl rfl)
    have := do_b_29 g P z M0 hP m (n + 1) M3 (some (.inl v1)) (some (.inl (aAt (M 30) 32 (nI (31 - n))))) (by omega) hK3 (fun j hj2 => by
      rw [r2, r1, hf]
      unfold aSw
      by_cases e1 : j = jj
      · rw [e1, upd_s, if_pos rfl, hd _ (by omega)]
      · rw [upd_n e1, if_neg e1]
        by_cases e2 : j = 31 - n
        · rw [e2, upd_s, if_pos rfl, hd _ (by omega)]
        · rw [upd_n e2, if_neg e2]
          exact hd j hj2) (fun q hq4 => by rw [show M3 31 = M 31 from by show mUp (mUp M 30 _) 30 _ 31 = _; rw [mUp_ne (by decide), mUp_ne (by decide)]]; exact hq q hq4)
    rw [nI_s1 (by omega), show 31 - n - 1 = 31 - (n + 1) by omega]
    exact this
theorem do_a_29 (g : mG) (P : mP) (z : Int32) (M0 : mM) (hP : ∀ M', RpP 29 M' aX0 (aDl0 z) 0 0 [] → FrP 29 M0 M' → P none M') :
    ∀ (m i : Nat) (M : mM) (l3 l4 l5 : Option mV), i + m = 32 → doK_29 M0 M → (∀ j, j < i → M 30 j = nI j) → (∀ q, q < 4 → M 31 q = 0) → mRun (mSx g) (f_X2_dealOut g) P (6, [some (.inr (some 29)), some (.inl z), some (.inl (nI i)), l3, l4, l5], [], M)
  | 0, i, M, l3, l4, l5, hi, hK, hd, hq => by
    obtain rfl : i = 32 := by omega
    refine v_do_6_29 g M P z (nI 32) l3 l4 l5 ⟨fun _ => ?_, fun w => absurd (nI_le (Nat.le_refl _) (by decide)) w⟩
    exact do_b_29 g P z M0 hP 31 0 M l4 l5 rfl hK hd hq
  | m + 1, i, M, l3, l4, l5, hi, hK, hd, hq => by
    refine v_do_6_29 g M P z (nI i) l3 l4 l5 ⟨fun w => absurd w (nI_ge (by omega) (by decide)), fun _ => ?_⟩
    rw [nI_add]
    intro M1
    have r1 : M1 30 = upd (M 30) i (nI i) := by
      show mUp M 30 (aSet (M 30) 32 (nI i) (nI i)) 30 = _
      rw [mUp_at, aSet_in (by omega) (by decide)]
    refine do_a_29 g P z M0 hP m (i + 1) M1 l3 l4 l5 (by omega) (doK_up_29 hK (Or.inl rfl)) (fun j hj => ?_) (fun q hq4 => by rw [show M1 31 = M 31 from mUp_ne (by decide)]; exact hq q hq4)
    rw [r1]
    by_cases e : j = i
    · rw [e, upd_s]
    · rw [upd_n e]
      exact hd j (by omega)
theorem do_run_29 (g : mG) (M : mM) (P : mP) (z : Int32) (hP : ∀ M', RpP 29 M' aX0 (aDl0 z) 0 0 [] → FrP 29 M M' → P none M') : mRun (mSx g) (f_X2_dealOut g) P (0, [some (.inr (some 29)), some (.inl z), none, none, none, none], [], M) := by
  refine v_do_0_29 g M P z ?_
  intro M1 M2 M3 M4 M5 M6 M7 M8
  have f8 : ∀ d, d ≠ 29 → M8 d = M3 d := fun d h => by
    show mW1 (mW1 (mW1 (mW1 (mW1 M3 29 7 _) 29 8 _) 29 9 _) 29 10 _) 29 11 _ d = _
    rw [mW1_c h, mW1_c h, mW1_c h, mW1_c h, mW1_c h]
  have e2 : M8 31 = aFill (M 31) 4 (nI 0) := by
    rw [f8 _ (by decide)]
    show mUp (mUp M1 32 _) 36 _ 31 = _
    rw [mUp_ne (by decide), mUp_ne (by decide)]
    exact mUp_at
  have e7 : M8 36 = aFill (M 36) 2 (nI 0) := by
    rw [f8 _ (by decide)]
    exact mUp_at
  refine do_a_29 g P z M hP 32 0 M8 none none none rfl ⟨?_, ?_, ?_, ?_, mW1_s, ?_, ?_, fun d hd => ?_⟩ (fun j hj => absurd hj (Nat.not_lt_zero _)) (fun q hq => ?_)
  · show mW1 (mW1 (mW1 (mW1 (mW1 M3 29 7 _) 29 8 _) 29 9 _) 29 10 _) 29 11 _ 29 7 = _
    rw [mW1_k (by decide), mW1_k (by decide), mW1_k (by decide), mW1_k (by decide), mW1_s]
  · show mW1 (mW1 (mW1 (mW1 M4 29 8 _) 29 9 _) 29 10 _) 29 11 _ 29 8 = _
    rw [mW1_k (by decide), mW1_k (by decide), mW1_k (by decide), mW1_s]
  · show mW1 (mW1 (mW1 M5 29 9 _) 29 10 _) 29 11 _ 29 9 = _
    rw [mW1_k (by decide), mW1_k (by decide), mW1_s]
  · show mW1 (mW1 M6 29 10 _) 29 11 _ 29 10 = _
    rw [mW1_k (by decide), mW1_s]
  · rw [e7]
    rfl
  · rw [e7]
    rfl
  · rw [f8 d (by omega)]
    show mUp (mUp (mUp M 31 _) 32 _) 36 _ d = _
    rw [mUp_ne (by omega), mUp_ne (by omega), mUp_ne (by omega)]
  · rw [e2]
    unfold aFill
    rw [if_pos hq]
    rfl
theorem run_X2_dealOut : mRunOf 6 t_X2_dealOut f_X2_dealOut := fun g as M P hT => by
  obtain ⟨⟨p, z⟩, ⟨h1, rfl⟩, hP⟩ := hT
  refine ⟨Nat.le_of_ble_eq_true rfl, ?_⟩
  dsimp only at h1
  rcases pl_two h1 with rfl | rfl
  · exact do_run_16 g M P z (fun M' h8 h9 => hP M' ⟨h8, h9⟩)
  · exact do_run_29 g M P z (fun M' h8 h9 => hP M' ⟨h8, h9⟩)
theorem ok_X2_dealOut : mOK yX2_dealOut cX2_dealOut 6 (none) 3 t_X2_dealOut := mOK.of f_X2_dealOut (by decide) (fun _ => rfl) (fun g => mCodeOK kk_X2_dealOut) (fun g => mFldL fk_RX2 rfl) (fun g idx v h => by cases h) (fun g idx v h => by cases h) (mCalL (l := l_X2_dealOut) (List.forall_mem_cons.mpr ⟨mSite.V (idx := 45) ok_X2_clear (by decide) (by decide) rv_X2_clear wc_X2_clear wk_RX2_45 wi_X2_clear wl_X2_clear wn_RX2 wd_X2_clear, List.forall_mem_cons.mpr ⟨mSite.SN (idx := 48) ok_X7_set (by decide) (by decide) wc_X7_set wm_RX2_48 wt_X7_set wn_RX7 wd_X7_set, List.forall_mem_cons.mpr ⟨mSite.SN (idx := 52) ok_X7_nextSeed (by decide) (by decide) wc_X7_nextSeed wm_RX2_52 wt_X7_nextSeed wn_RX7 wd_X7_nextSeed, List.forall_mem_cons.mpr ⟨mSite.SN (idx := 56) ok_X7_at (by decide) (by decide) wc_X7_at wm_RX2_56 wt_X7_at wn_RX7 wd_X7_at, List.forall_mem_cons.mpr ⟨mSite.SN (idx := 60) ok_X7_bitOf (by decide) (by decide) wc_X7_bitOf wm_RX2_60 wt_X7_bitOf wn_RX7 wd_X7_bitOf, List.forall_mem_cons.mpr ⟨mSite.SN (idx := 63) ok_X7_take (by decide) (by decide) wc_X7_take wm_RX2_63 wt_X7_take wn_RX7 wd_X7_take, fun _ h => absurd h List.not_mem_nil⟩⟩⟩⟩⟩⟩) (fun _ => rfl)) run_X2_dealOut

