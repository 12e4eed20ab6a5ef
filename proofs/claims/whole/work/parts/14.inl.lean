/-! ===== METHODS OF THE CLASS WITHOUT LOOPS: their own instructions ===== -/
def k_X1_isAbove : List (Nat × mI) := [(0, .iload_n 1, 1, 1, 0, []),
  (1, .aload_n 0, 1, 0, 0, []),
  (2, .getfield 23, 3, 0, 0, []),
  (5, .if_icmp .gt 19, 3, 24, 0, []),
  (8, .iload_n 1, 1, 1, 0, []),
  (9, .aload_n 0, 1, 0, 0, []),
  (10, .getfield 23, 3, 0, 0, []),
  (13, .if_icmp .ne 15, 3, 28, 0, []),
  (16, .iload_n 2, 1, 2, 0, []),
  (17, .aload_n 0, 1, 0, 0, []),
  (18, .getfield 26, 3, 0, 0, []),
  (21, .if_icmp .le 7, 3, 28, 0, []),
  (24, .iconst 1, 1, 0, nI 1, []),
  (25, .goto 4, 3, 29, 0, []),
  (28, .iconst 0, 1, 0, nI 0, []),
  (29, .ireturn, 1, 0, 0, [])]
theorem kk_X1_isAbove : (k_X1_isAbove.all fun e => mChk cX1_isAbove e.1 e.2) = true := by decide +kernel
def l_X1_isAbove : List (Nat × Nat × (mG → mT)) := []
def f_X1_isAbove (g : mG) : mF := (mLk k_X1_isAbove, mLk fl_RX1, mLk (l_X1_isAbove.map fun e => (e.1, e.2.1, e.2.2 g)), mLk ([] : List (Nat × mV)), mLk ([] : List (Nat × mV)), some .boolean)
theorem m_X1_isAbove (g : mG) : mMono (f_X1_isAbove g) := mMonoL (g := g) (l := l_X1_isAbove) (fun _ h => absurd h List.not_mem_nil) rfl
def t_X1_isAbove : mG → mT := mIV pl_X1 f_X1_isAbove 3 17
theorem mo_X1_isAbove : mMn t_X1_isAbove := mIV_mono m_X1_isAbove
theorem rv_X1_isAbove : mHasR yX1_isAbove 2 t_X1_isAbove := mIV_recv is_X1
theorem ok_X1_isAbove : mOK yX1_isAbove cX1_isAbove 3 (some .boolean) 1 t_X1_isAbove := mOK.of f_X1_isAbove (by decide) (fun _ => rfl) (fun g => mCodeOK kk_X1_isAbove) (fun g => mFldL fk_RX1 rfl) (fun g idx v h => by cases h) (fun g idx v h => by cases h) (mCalL (l := l_X1_isAbove) (fun _ h => absurd h List.not_mem_nil) (fun _ => rfl)) (mIV_run m_X1_isAbove)

def k_X1_mayDouble : List (Nat × mI) := [(0, .aload_n 0, 1, 0, 0, []),
  (1, .getfield 23, 3, 0, 0, []),
  (4, .iconst (-1), 1, 0, -1, []),
  (5, .if_icmp .eq 27, 3, 32, 0, []),
  (8, .aload_n 0, 1, 0, 0, []),
  (9, .getfield 29, 3, 0, 0, []),
  (12, .aload_n 0, 1, 0, 0, []),
  (13, .getfield 19, 3, 0, 0, []),
  (16, .iconst 1, 1, 0, nI 1, []),
  (17, .iand, 1, 0, 0, []),
  (18, .if_icmp .eq 14, 3, 32, 0, []),
  (21, .aload_n 0, 1, 0, 0, []),
  (22, .getfield 32, 3, 0, 0, []),
  (25, .ifCond .ne 7, 3, 32, 0, []),
  (28, .iconst 1, 1, 0, nI 1, []),
  (29, .goto 4, 3, 33, 0, []),
  (32, .iconst 0, 1, 0, nI 0, []),
  (33, .ireturn, 1, 0, 0, [])]
theorem kk_X1_mayDouble : (k_X1_mayDouble.all fun e => mChk cX1_mayDouble e.1 e.2) = true := by decide +kernel
def l_X1_mayDouble : List (Nat × Nat × (mG → mT)) := []
def f_X1_mayDouble (g : mG) : mF := (mLk k_X1_mayDouble, mLk fl_RX1, mLk (l_X1_mayDouble.map fun e => (e.1, e.2.1, e.2.2 g)), mLk ([] : List (Nat × mV)), mLk ([] : List (Nat × mV)), some .boolean)
theorem m_X1_mayDouble (g : mG) : mMono (f_X1_mayDouble g) := mMonoL (g := g) (l := l_X1_mayDouble) (fun _ h => absurd h List.not_mem_nil) rfl
def t_X1_mayDouble : mG → mT := mIV pl_X1 f_X1_mayDouble 1 19
theorem mo_X1_mayDouble : mMn t_X1_mayDouble := mIV_mono m_X1_mayDouble
theorem rv_X1_mayDouble : mHasR yX1_mayDouble 0 t_X1_mayDouble := mIV_recv is_X1
theorem ok_X1_mayDouble : mOK yX1_mayDouble cX1_mayDouble 1 (some .boolean) 1 t_X1_mayDouble := mOK.of f_X1_mayDouble (by decide) (fun _ => rfl) (fun g => mCodeOK kk_X1_mayDouble) (fun g => mFldL fk_RX1 rfl) (fun g idx v h => by cases h) (fun g idx v h => by cases h) (mCalL (l := l_X1_mayDouble) (fun _ h => absurd h List.not_mem_nil) (fun _ => rfl)) (mIV_run m_X1_mayDouble)

def k_X1_mayRedouble : List (Nat × mI) := [(0, .aload_n 0, 1, 0, 0, []),
  (1, .getfield 23, 3, 0, 0, []),
  (4, .iconst (-1), 1, 0, -1, []),
  (5, .if_icmp .eq 28, 3, 33, 0, []),
  (8, .aload_n 0, 1, 0, 0, []),
  (9, .getfield 29, 3, 0, 0, []),
  (12, .aload_n 0, 1, 0, 0, []),
  (13, .getfield 19, 3, 0, 0, []),
  (16, .iconst 1, 1, 0, nI 1, []),
  (17, .iand, 1, 0, 0, []),
  (18, .if_icmp .ne 15, 3, 33, 0, []),
  (21, .aload_n 0, 1, 0, 0, []),
  (22, .getfield 32, 3, 0, 0, []),
  (25, .iconst 1, 1, 0, nI 1, []),
  (26, .if_icmp .ne 7, 3, 33, 0, []),
  (29, .iconst 1, 1, 0, nI 1, []),
  (30, .goto 4, 3, 34, 0, []),
  (33, .iconst 0, 1, 0, nI 0, []),
  (34, .ireturn, 1, 0, 0, [])]
theorem kk_X1_mayRedouble : (k_X1_mayRedouble.all fun e => mChk cX1_mayRedouble e.1 e.2) = true := by decide +kernel
def l_X1_mayRedouble : List (Nat × Nat × (mG → mT)) := []
def f_X1_mayRedouble (g : mG) : mF := (mLk k_X1_mayRedouble, mLk fl_RX1, mLk (l_X1_mayRedouble.map fun e => (e.1, e.2.1, e.2.2 g)), mLk ([] : List (Nat × mV)), mLk ([] : List (Nat × mV)), some .boolean)
theorem m_X1_mayRedouble (g : mG) : mMono (f_X1_mayRedouble g) := mMonoL (g := g) (l := l_X1_mayRedouble) (fun _ h => absurd h List.not_mem_nil) rfl
def t_X1_mayRedouble : mG → mT := mIV pl_X1 f_X1_mayRedouble 1 20
theorem mo_X1_mayRedouble : mMn t_X1_mayRedouble := mIV_mono m_X1_mayRedouble
theorem rv_X1_mayRedouble : mHasR yX1_mayRedouble 0 t_X1_mayRedouble := mIV_recv is_X1
theorem ok_X1_mayRedouble : mOK yX1_mayRedouble cX1_mayRedouble 1 (some .boolean) 1 t_X1_mayRedouble := mOK.of f_X1_mayRedouble (by decide) (fun _ => rfl) (fun g => mCodeOK kk_X1_mayRedouble) (fun g => mFldL fk_RX1 rfl) (fun g idx v h => by cases h) (fun g idx v h => by cases h) (mCalL (l := l_X1_mayRedouble) (fun _ h => absurd h List.not_mem_nil) (fun _ => rfl)) (mIV_run m_X1_mayRedouble)

def k_X1_bid : List (Nat × mI) := [(0, .aload_n 0, 1, 0, 0, []),
  (1, .iload_n 1, 1, 1, 0, []),
  (2, .putfield 23, 3, 0, 0, []),
  (5, .aload_n 0, 1, 0, 0, []),
  (6, .iload_n 2, 1, 2, 0, []),
  (7, .putfield 26, 3, 0, 0, []),
  (10, .aload_n 0, 1, 0, 0, []),
  (11, .aload_n 0, 1, 0, 0, []),
  (12, .getfield 19, 3, 0, 0, []),
  (15, .iconst 1, 1, 0, nI 1, []),
  (16, .iand, 1, 0, 0, []),
  (17, .putfield 29, 3, 0, 0, []),
  (20, .aload_n 0, 1, 0, 0, []),
  (21, .iconst 0, 1, 0, nI 0, []),
  (22, .putfield 32, 3, 0, 0, []),
  (25, .aload_n 0, 1, 0, 0, []),
  (26, .iconst 0, 1, 0, nI 0, []),
  (27, .putfield 35, 3, 0, 0, []),
  (30, .aload_n 0, 1, 0, 0, []),
  (31, .getfield 29, 3, 0, 0, []),
  (34, .iconst 5, 1, 0, nI 5, []),
  (35, .imul, 1, 0, 0, []),
  (36, .aload_n 0, 1, 0, 0, []),
  (37, .getfield 26, 3, 0, 0, []),
  (40, .iadd, 1, 0, 0, []),
  (41, .istore_n 3, 1, 3, 0, []),
  (42, .aload_n 0, 1, 0, 0, []),
  (43, .getfield 9, 3, 0, 0, []),
  (46, .iload_n 3, 1, 3, 0, []),
  (47, .invokestatic 41, 3, 0, 0, []),
  (50, .iconst (-1), 1, 0, -1, []),
  (51, .if_icmp .ne 15, 3, 66, 0, []),
  (54, .aload_n 0, 1, 0, 0, []),
  (55, .getfield 9, 3, 0, 0, []),
  (58, .iload_n 3, 1, 3, 0, []),
  (59, .aload_n 0, 1, 0, 0, []),
  (60, .getfield 19, 3, 0, 0, []),
  (63, .invokestatic 45, 3, 0, 0, []),
  (66, .aload_n 0, 1, 0, 0, []),
  (67, .aload_n 0, 1, 0, 0, []),
  (68, .getfield 19, 3, 0, 0, []),
  (71, .iconst 1, 1, 0, nI 1, []),
  (72, .iadd, 1, 0, 0, []),
  (73, .iconst 3, 1, 0, nI 3, []),
  (74, .iand, 1, 0, 0, []),
  (75, .putfield 19, 3, 0, 0, []),
  (78, .return_, 1, 0, 0, [])]
theorem kk_X1_bid : (k_X1_bid.all fun e => mChk cX1_bid e.1 e.2) = true := by decide +kernel
def l_X1_bid : List (Nat × Nat × (mG → mT)) := [(3 * 41 + 1, 2, t_X7_at), (3 * 45 + 1, 3, t_X7_set)]
def f_X1_bid (g : mG) : mF := (mLk k_X1_bid, mLk fl_RX1, mLk (l_X1_bid.map fun e => (e.1, e.2.1, e.2.2 g)), mLk ([] : List (Nat × mV)), mLk ([] : List (Nat × mV)), none)
theorem m_X1_bid (g : mG) : mMono (f_X1_bid g) := mMonoL (g := g) (l := l_X1_bid) (List.forall_mem_cons.mpr ⟨mo_X7_at, List.forall_mem_cons.mpr ⟨mo_X7_set, fun _ h => absurd h List.not_mem_nil⟩⟩) rfl
def t_X1_bid : mG → mT := mIV pl_X1 f_X1_bid 4 48
theorem mo_X1_bid : mMn t_X1_bid := mIV_mono m_X1_bid
theorem rv_X1_bid : mHasR yX1_bid 2 t_X1_bid := mIV_recv is_X1
theorem ok_X1_bid : mOK yX1_bid cX1_bid 4 (none) 2 t_X1_bid := mOK.of f_X1_bid (by decide) (fun _ => rfl) (fun g => mCodeOK kk_X1_bid) (fun g => mFldL fk_RX1 rfl) (fun g idx v h => by cases h) (fun g idx v h => by cases h) (mCalL (l := l_X1_bid) (List.forall_mem_cons.mpr ⟨mSite.SN (idx := 41) ok_X7_at (by decide) (by decide) wc_X7_at wm_RX1_41 wt_X7_at wn_RX7 wd_X7_at, List.forall_mem_cons.mpr ⟨mSite.SN (idx := 45) ok_X7_set (by decide) (by decide) wc_X7_set wm_RX1_45 wt_X7_set wn_RX7 wd_X7_set, fun _ h => absurd h List.not_mem_nil⟩⟩) (fun _ => rfl)) (mIV_run m_X1_bid)

def k_X1_redoubleOrDouble : List (Nat × mI) := [(0, .aload_n 0, 1, 0, 0, []),
  (1, .dup, 1, 0, 0, []),
  (2, .getfield 32, 3, 0, 0, []),
  (5, .iconst 1, 1, 0, nI 1, []),
  (6, .iadd, 1, 0, 0, []),
  (7, .putfield 32, 3, 0, 0, []),
  (10, .aload_n 0, 1, 0, 0, []),
  (11, .iconst 0, 1, 0, nI 0, []),
  (12, .putfield 35, 3, 0, 0, []),
  (15, .aload_n 0, 1, 0, 0, []),
  (16, .aload_n 0, 1, 0, 0, []),
  (17, .getfield 19, 3, 0, 0, []),
  (20, .iconst 1, 1, 0, nI 1, []),
  (21, .iadd, 1, 0, 0, []),
  (22, .iconst 3, 1, 0, nI 3, []),
  (23, .iand, 1, 0, 0, []),
  (24, .putfield 19, 3, 0, 0, []),
  (27, .return_, 1, 0, 0, [])]
theorem kk_X1_redoubleOrDouble : (k_X1_redoubleOrDouble.all fun e => mChk cX1_redoubleOrDouble e.1 e.2) = true := by decide +kernel
def l_X1_redoubleOrDouble : List (Nat × Nat × (mG → mT)) := []
def f_X1_redoubleOrDouble (g : mG) : mF := (mLk k_X1_redoubleOrDouble, mLk fl_RX1, mLk (l_X1_redoubleOrDouble.map fun e => (e.1, e.2.1, e.2.2 g)), mLk ([] : List (Nat × mV)), mLk ([] : List (Nat × mV)), none)
theorem m_X1_redoubleOrDouble (g : mG) : mMono (f_X1_redoubleOrDouble g) := mMonoL (g := g) (l := l_X1_redoubleOrDouble) (fun _ h => absurd h List.not_mem_nil) rfl
def t_X1_redoubleOrDouble : mG → mT := mIV pl_X1 f_X1_redoubleOrDouble 1 19
theorem mo_X1_redoubleOrDouble : mMn t_X1_redoubleOrDouble := mIV_mono m_X1_redoubleOrDouble
theorem rv_X1_redoubleOrDouble : mHasR yX1_redoubleOrDouble 0 t_X1_redoubleOrDouble := mIV_recv is_X1
theorem ok_X1_redoubleOrDouble : mOK yX1_redoubleOrDouble cX1_redoubleOrDouble 1 (none) 1 t_X1_redoubleOrDouble := mOK.of f_X1_redoubleOrDouble (by decide) (fun _ => rfl) (fun g => mCodeOK kk_X1_redoubleOrDouble) (fun g => mFldL fk_RX1 rfl) (fun g idx v h => by cases h) (fun g idx v h => by cases h) (mCalL (l := l_X1_redoubleOrDouble) (fun _ h => absurd h List.not_mem_nil) (fun _ => rfl)) (mIV_run m_X1_redoubleOrDouble)

def k_X1_pass : List (Nat × mI) := [(0, .aload_n 0, 1, 0, 0, []),
  (1, .dup, 1, 0, 0, []),
  (2, .getfield 35, 3, 0, 0, []),
  (5, .iconst 1, 1, 0, nI 1, []),
  (6, .iadd, 1, 0, 0, []),
  (7, .putfield 35, 3, 0, 0, []),
  (10, .aload_n 0, 1, 0, 0, []),
  (11, .aload_n 0, 1, 0, 0, []),
  (12, .getfield 19, 3, 0, 0, []),
  (15, .iconst 1, 1, 0, nI 1, []),
  (16, .iadd, 1, 0, 0, []),
  (17, .iconst 3, 1, 0, nI 3, []),
  (18, .iand, 1, 0, 0, []),
  (19, .putfield 19, 3, 0, 0, []),
  (22, .return_, 1, 0, 0, [])]
theorem kk_X1_pass : (k_X1_pass.all fun e => mChk cX1_pass e.1 e.2) = true := by decide +kernel
def l_X1_pass : List (Nat × Nat × (mG → mT)) := []
def f_X1_pass (g : mG) : mF := (mLk k_X1_pass, mLk fl_RX1, mLk (l_X1_pass.map fun e => (e.1, e.2.1, e.2.2 g)), mLk ([] : List (Nat × mV)), mLk ([] : List (Nat × mV)), none)
theorem m_X1_pass (g : mG) : mMono (f_X1_pass g) := mMonoL (g := g) (l := l_X1_pass) (fun _ h => absurd h List.not_mem_nil) rfl
def t_X1_pass : mG → mT := mIV pl_X1 f_X1_pass 1 16
theorem mo_X1_pass : mMn t_X1_pass := mIV_mono m_X1_pass
theorem rv_X1_pass : mHasR yX1_pass 0 t_X1_pass := mIV_recv is_X1
theorem ok_X1_pass : mOK yX1_pass cX1_pass 1 (none) 1 t_X1_pass := mOK.of f_X1_pass (by decide) (fun _ => rfl) (fun g => mCodeOK kk_X1_pass) (fun g => mFldL fk_RX1 rfl) (fun g idx v h => by cases h) (fun g idx v h => by cases h) (mCalL (l := l_X1_pass) (fun _ h => absurd h List.not_mem_nil) (fun _ => rfl)) (mIV_run m_X1_pass)

def k_X1_hasContract : List (Nat × mI) := [(0, .aload_n 0, 1, 0, 0, []),
  (1, .getfield 23, 3, 0, 0, []),
  (4, .iconst (-1), 1, 0, -1, []),
  (5, .if_icmp .eq 15, 3, 20, 0, []),
  (8, .aload_n 0, 1, 0, 0, []),
  (9, .getfield 35, 3, 0, 0, []),
  (12, .iconst 3, 1, 0, nI 3, []),
  (13, .if_icmp .lt 7, 3, 20, 0, []),
  (16, .iconst 1, 1, 0, nI 1, []),
  (17, .goto 4, 3, 21, 0, []),
  (20, .iconst 0, 1, 0, nI 0, []),
  (21, .ireturn, 1, 0, 0, [])]
theorem kk_X1_hasContract : (k_X1_hasContract.all fun e => mChk cX1_hasContract e.1 e.2) = true := by decide +kernel
def l_X1_hasContract : List (Nat × Nat × (mG → mT)) := []
def f_X1_hasContract (g : mG) : mF := (mLk k_X1_hasContract, mLk fl_RX1, mLk (l_X1_hasContract.map fun e => (e.1, e.2.1, e.2.2 g)), mLk ([] : List (Nat × mV)), mLk ([] : List (Nat × mV)), some .boolean)
theorem m_X1_hasContract (g : mG) : mMono (f_X1_hasContract g) := mMonoL (g := g) (l := l_X1_hasContract) (fun _ h => absurd h List.not_mem_nil) rfl
def t_X1_hasContract : mG → mT := mIV pl_X1 f_X1_hasContract 1 13
theorem mo_X1_hasContract : mMn t_X1_hasContract := mIV_mono m_X1_hasContract
theorem rv_X1_hasContract : mHasR yX1_hasContract 0 t_X1_hasContract := mIV_recv is_X1
theorem ok_X1_hasContract : mOK yX1_hasContract cX1_hasContract 1 (some .boolean) 1 t_X1_hasContract := mOK.of f_X1_hasContract (by decide) (fun _ => rfl) (fun g => mCodeOK kk_X1_hasContract) (fun g => mFldL fk_RX1 rfl) (fun g idx v h => by cases h) (fun g idx v h => by cases h) (mCalL (l := l_X1_hasContract) (fun _ h => absurd h List.not_mem_nil) (fun _ => rfl)) (mIV_run m_X1_hasContract)

def k_X1_nameDeclarer : List (Nat × mI) := [(0, .aload_n 0, 1, 0, 0, []),
  (1, .aload_n 0, 1, 0, 0, []),
  (2, .getfield 9, 3, 0, 0, []),
  (5, .aload_n 0, 1, 0, 0, []),
  (6, .getfield 29, 3, 0, 0, []),
  (9, .iconst 5, 1, 0, nI 5, []),
  (10, .imul, 1, 0, 0, []),
  (11, .aload_n 0, 1, 0, 0, []),
  (12, .getfield 26, 3, 0, 0, []),
  (15, .iadd, 1, 0, 0, []),
  (16, .invokestatic 41, 3, 0, 0, []),
  (19, .putfield 38, 3, 0, 0, []),
  (22, .return_, 1, 0, 0, [])]
theorem kk_X1_nameDeclarer : (k_X1_nameDeclarer.all fun e => mChk cX1_nameDeclarer e.1 e.2) = true := by decide +kernel
def l_X1_nameDeclarer : List (Nat × Nat × (mG → mT)) := [(3 * 41 + 1, 2, t_X7_at)]
def f_X1_nameDeclarer (g : mG) : mF := (mLk k_X1_nameDeclarer, mLk fl_RX1, mLk (l_X1_nameDeclarer.map fun e => (e.1, e.2.1, e.2.2 g)), mLk ([] : List (Nat × mV)), mLk ([] : List (Nat × mV)), none)
theorem m_X1_nameDeclarer (g : mG) : mMono (f_X1_nameDeclarer g) := mMonoL (g := g) (l := l_X1_nameDeclarer) (List.forall_mem_cons.mpr ⟨mo_X7_at, fun _ h => absurd h List.not_mem_nil⟩) rfl
def t_X1_nameDeclarer : mG → mT := mIV pl_X1 f_X1_nameDeclarer 1 14
theorem mo_X1_nameDeclarer : mMn t_X1_nameDeclarer := mIV_mono m_X1_nameDeclarer
theorem rv_X1_nameDeclarer : mHasR yX1_nameDeclarer 0 t_X1_nameDeclarer := mIV_recv is_X1
theorem ok_X1_nameDeclarer : mOK yX1_nameDeclarer cX1_nameDeclarer 1 (none) 2 t_X1_nameDeclarer := mOK.of f_X1_nameDeclarer (by decide) (fun _ => rfl) (fun g => mCodeOK kk_X1_nameDeclarer) (fun g => mFldL fk_RX1 rfl) (fun g idx v h => by cases h) (fun g idx v h => by cases h) (mCalL (l := l_X1_nameDeclarer) (List.forall_mem_cons.mpr ⟨mSite.SN (idx := 41) ok_X7_at (by decide) (by decide) wc_X7_at wm_RX1_41 wt_X7_at wn_RX7 wd_X7_at, fun _ h => absurd h List.not_mem_nil⟩) (fun _ => rfl)) (mIV_run m_X1_nameDeclarer)

def k_X2_begin : List (Nat × mI) := [(0, .aload_n 0, 1, 0, 0, []),
  (1, .iload_n 1, 1, 1, 0, []),
  (2, .putfield 67, 3, 0, 0, []),
  (5, .aload_n 0, 1, 0, 0, []),
  (6, .iload_n 2, 1, 2, 0, []),
  (7, .putfield 70, 3, 0, 0, []),
  (10, .aload_n 0, 1, 0, 0, []),
  (11, .iload_n 3, 1, 3, 0, []),
  (12, .putfield 73, 3, 0, 0, []),
  (15, .aload_n 0, 1, 0, 0, []),
  (16, .iload 4, 2, 4, 0, []),
  (18, .putfield 76, 3, 0, 0, []),
  (21, .return_, 1, 0, 0, [])]
theorem kk_X2_begin : (k_X2_begin.all fun e => mChk cX2_begin e.1 e.2) = true := by decide +kernel
def l_X2_begin : List (Nat × Nat × (mG → mT)) := []
def f_X2_begin (g : mG) : mF := (mLk k_X2_begin, mLk fl_RX2, mLk (l_X2_begin.map fun e => (e.1, e.2.1, e.2.2 g)), mLk ([] : List (Nat × mV)), mLk ([] : List (Nat × mV)), none)
theorem m_X2_begin (g : mG) : mMono (f_X2_begin g) := mMonoL (g := g) (l := l_X2_begin) (fun _ h => absurd h List.not_mem_nil) rfl
def t_X2_begin : mG → mT := mIV pl_X2 f_X2_begin 5 14
theorem mo_X2_begin : mMn t_X2_begin := mIV_mono m_X2_begin
theorem rv_X2_begin : mHasR yX2_begin 4 t_X2_begin := mIV_recv is_X2
theorem ok_X2_begin : mOK yX2_begin cX2_begin 5 (none) 1 t_X2_begin := mOK.of f_X2_begin (by decide) (fun _ => rfl) (fun g => mCodeOK kk_X2_begin) (fun g => mFldL fk_RX2 rfl) (fun g idx v h => by cases h) (fun g idx v h => by cases h) (mCalL (l := l_X2_begin) (fun _ h => absurd h List.not_mem_nil) (fun _ => rfl)) (mIV_run m_X2_begin)

def k_X2_full : List (Nat × mI) := [(0, .aload_n 0, 1, 0, 0, []),
  (1, .getfield 37, 3, 0, 0, []),
  (4, .iconst 4, 1, 0, nI 4, []),
  (5, .idiv, 1, 0, 0, []),
  (6, .ireturn, 1, 0, 0, [])]
theorem kk_X2_full : (k_X2_full.all fun e => mChk cX2_full e.1 e.2) = true := by decide +kernel
def l_X2_full : List (Nat × Nat × (mG → mT)) := []
def f_X2_full (g : mG) : mF := (mLk k_X2_full, mLk fl_RX2, mLk (l_X2_full.map fun e => (e.1, e.2.1, e.2.2 g)), mLk ([] : List (Nat × mV)), mLk ([] : List (Nat × mV)), some .int)
theorem m_X2_full (g : mG) : mMono (f_X2_full g) := mMonoL (g := g) (l := l_X2_full) (fun _ h => absurd h List.not_mem_nil) rfl
def t_X2_full : mG → mT := mIV pl_X2 f_X2_full 1 6
theorem mo_X2_full : mMn t_X2_full := mIV_mono m_X2_full
theorem rv_X2_full : mHasR yX2_full 0 t_X2_full := mIV_recv is_X2
theorem ok_X2_full : mOK yX2_full cX2_full 1 (some .int) 1 t_X2_full := mOK.of f_X2_full (by decide) (fun _ => rfl) (fun g => mCodeOK kk_X2_full) (fun g => mFldL fk_RX2 rfl) (fun g idx v h => by cases h) (fun g idx v h => by cases h) (mCalL (l := l_X2_full) (fun _ h => absurd h List.not_mem_nil) (fun _ => rfl)) (mIV_run m_X2_full)

def k_X2_left : List (Nat × mI) := [(0, .bipush 8, 2, 0, nI 8, []),
  (2, .aload_n 0, 1, 0, 0, []),
  (3, .invokevirtual 79, 3, 0, 0, []),
  (6, .isub, 1, 0, 0, []),
  (7, .ireturn, 1, 0, 0, [])]
theorem kk_X2_left : (k_X2_left.all fun e => mChk cX2_left e.1 e.2) = true := by decide +kernel
def l_X2_left : List (Nat × Nat × (mG → mT)) := [(3 * 79, 0 + 1, t_X2_full)]
def f_X2_left (g : mG) : mF := (mLk k_X2_left, mLk fl_RX2, mLk (l_X2_left.map fun e => (e.1, e.2.1, e.2.2 g)), mLk ([] : List (Nat × mV)), mLk ([] : List (Nat × mV)), some .int)
theorem m_X2_left (g : mG) : mMono (f_X2_left g) := mMonoL (g := g) (l := l_X2_left) (List.forall_mem_cons.mpr ⟨mo_X2_full, fun _ h => absurd h List.not_mem_nil⟩) rfl
def t_X2_left : mG → mT := mIV pl_X2 f_X2_left 1 6
theorem mo_X2_left : mMn t_X2_left := mIV_mono m_X2_left
theorem rv_X2_left : mHasR yX2_left 0 t_X2_left := mIV_recv is_X2
theorem ok_X2_left : mOK yX2_left cX2_left 1 (some .int) 2 t_X2_left := mOK.of f_X2_left (by decide) (fun _ => rfl) (fun g => mCodeOK kk_X2_left) (fun g => mFldL fk_RX2 rfl) (fun g idx v h => by cases h) (fun g idx v h => by cases h) (mCalL (l := l_X2_left) (List.forall_mem_cons.mpr ⟨mSite.V (idx := 79) ok_X2_full (by decide) (by decide) rv_X2_full wc_X2_full wk_RX2_79 wi_X2_full wl_X2_full wn_RX2 wd_X2_full, fun _ h => absurd h List.not_mem_nil⟩) (fun _ => rfl)) (mIV_run m_X2_left)

def k_X2_cardAt : List (Nat × mI) := [(0, .iload_n 1, 1, 1, 0, []),
  (1, .aload_n 0, 1, 0, 0, []),
  (2, .getfield 37, 3, 0, 0, []),
  (5, .if_icmp .ge 14, 3, 19, 0, []),
  (8, .aload_n 0, 1, 0, 0, []),
  (9, .getfield 21, 3, 0, 0, []),
  (12, .iload_n 1, 1, 1, 0, []),
  (13, .invokestatic 56, 3, 0, 0, []),
  (16, .goto 4, 3, 20, 0, []),
  (19, .iconst (-1), 1, 0, -1, []),
  (20, .ireturn, 1, 0, 0, [])]
theorem kk_X2_cardAt : (k_X2_cardAt.all fun e => mChk cX2_cardAt e.1 e.2) = true := by decide +kernel
def l_X2_cardAt : List (Nat × Nat × (mG → mT)) := [(3 * 56 + 1, 2, t_X7_at)]
def f_X2_cardAt (g : mG) : mF := (mLk k_X2_cardAt, mLk fl_RX2, mLk (l_X2_cardAt.map fun e => (e.1, e.2.1, e.2.2 g)), mLk ([] : List (Nat × mV)), mLk ([] : List (Nat × mV)), some .int)
theorem m_X2_cardAt (g : mG) : mMono (f_X2_cardAt g) := mMonoL (g := g) (l := l_X2_cardAt) (List.forall_mem_cons.mpr ⟨mo_X7_at, fun _ h => absurd h List.not_mem_nil⟩) rfl
def t_X2_cardAt : mG → mT := mIV pl_X2 f_X2_cardAt 2 12
theorem mo_X2_cardAt : mMn t_X2_cardAt := mIV_mono m_X2_cardAt
theorem rv_X2_cardAt : mHasR yX2_cardAt 1 t_X2_cardAt := mIV_recv is_X2
theorem ok_X2_cardAt : mOK yX2_cardAt cX2_cardAt 2 (some .int) 2 t_X2_cardAt := mOK.of f_X2_cardAt (by decide) (fun _ => rfl) (fun g => mCodeOK kk_X2_cardAt) (fun g => mFldL fk_RX2 rfl) (fun g idx v h => by cases h) (fun g idx v h => by cases h) (mCalL (l := l_X2_cardAt) (List.forall_mem_cons.mpr ⟨mSite.SN (idx := 56) ok_X7_at (by decide) (by decide) wc_X7_at wm_RX2_56 wt_X7_at wn_RX7 wd_X7_at, fun _ h => absurd h List.not_mem_nil⟩) (fun _ => rfl)) (mIV_run m_X2_cardAt)

def k_X2_addWon : List (Nat × mI) := [(0, .aload_n 0, 1, 0, 0, []),
  (1, .getfield 30, 3, 0, 0, []),
  (4, .iload_n 1, 1, 1, 0, []),
  (5, .aload_n 0, 1, 0, 0, []),
  (6, .getfield 30, 3, 0, 0, []),
  (9, .iload_n 1, 1, 1, 0, []),
  (10, .invokestatic 56, 3, 0, 0, []),
  (13, .iload_n 2, 1, 2, 0, []),
  (14, .iadd, 1, 0, 0, []),
  (15, .invokestatic 48, 3, 0, 0, []),
  (18, .return_, 1, 0, 0, [])]
theorem kk_X2_addWon : (k_X2_addWon.all fun e => mChk cX2_addWon e.1 e.2) = true := by decide +kernel
def l_X2_addWon : List (Nat × Nat × (mG → mT)) := [(3 * 56 + 1, 2, t_X7_at), (3 * 48 + 1, 3, t_X7_set)]
def f_X2_addWon (g : mG) : mF := (mLk k_X2_addWon, mLk fl_RX2, mLk (l_X2_addWon.map fun e => (e.1, e.2.1, e.2.2 g)), mLk ([] : List (Nat × mV)), mLk ([] : List (Nat × mV)), none)
theorem m_X2_addWon (g : mG) : mMono (f_X2_addWon g) := mMonoL (g := g) (l := l_X2_addWon) (List.forall_mem_cons.mpr ⟨mo_X7_at, List.forall_mem_cons.mpr ⟨mo_X7_set, fun _ h => absurd h List.not_mem_nil⟩⟩) rfl
def t_X2_addWon : mG → mT := mIV pl_X2 f_X2_addWon 3 12
theorem mo_X2_addWon : mMn t_X2_addWon := mIV_mono m_X2_addWon
theorem rv_X2_addWon : mHasR yX2_addWon 2 t_X2_addWon := mIV_recv is_X2
theorem ok_X2_addWon : mOK yX2_addWon cX2_addWon 3 (none) 2 t_X2_addWon := mOK.of f_X2_addWon (by decide) (fun _ => rfl) (fun g => mCodeOK kk_X2_addWon) (fun g => mFldL fk_RX2 rfl) (fun g idx v h => by cases h) (fun g idx v h => by cases h) (mCalL (l := l_X2_addWon) (List.forall_mem_cons.mpr ⟨mSite.SN (idx := 56) ok_X7_at (by decide) (by decide) wc_X7_at wm_RX2_56 wt_X7_at wn_RX7 wd_X7_at, List.forall_mem_cons.mpr ⟨mSite.SN (idx := 48) ok_X7_set (by decide) (by decide) wc_X7_set wm_RX2_48 wt_X7_set wn_RX7 wd_X7_set, fun _ h => absurd h List.not_mem_nil⟩⟩) (fun _ => rfl)) (mIV_run m_X2_addWon)

def k_X3_totalOf : List (Nat × mI) := [(0, .aload_n 0, 1, 0, 0, []),
  (1, .getfield 9, 3, 0, 0, []),
  (4, .iload_n 1, 1, 1, 0, []),
  (5, .bipush 6, 2, 0, nI 6, []),
  (7, .imul, 1, 0, 0, []),
  (8, .iload_n 2, 1, 2, 0, []),
  (9, .iadd, 1, 0, 0, []),
  (10, .invokestatic 44, 3, 0, 0, []),
  (13, .ireturn, 1, 0, 0, [])]
theorem kk_X3_totalOf : (k_X3_totalOf.all fun e => mChk cX3_totalOf e.1 e.2) = true := by decide +kernel
def l_X3_totalOf : List (Nat × Nat × (mG → mT)) := [(3 * 44 + 1, 2, t_X7_at)]
def f_X3_totalOf (g : mG) : mF := (mLk k_X3_totalOf, mLk fl_RX3, mLk (l_X3_totalOf.map fun e => (e.1, e.2.1, e.2.2 g)), mLk ([] : List (Nat × mV)), mLk ([] : List (Nat × mV)), some .int)
theorem m_X3_totalOf (g : mG) : mMono (f_X3_totalOf g) := mMonoL (g := g) (l := l_X3_totalOf) (List.forall_mem_cons.mpr ⟨mo_X7_at, fun _ h => absurd h List.not_mem_nil⟩) rfl
def t_X3_totalOf : mG → mT := mIV pl_X3 f_X3_totalOf 3 10
theorem mo_X3_totalOf : mMn t_X3_totalOf := mIV_mono m_X3_totalOf
theorem rv_X3_totalOf : mHasR yX3_totalOf 2 t_X3_totalOf := mIV_recv is_X3
theorem ok_X3_totalOf : mOK yX3_totalOf cX3_totalOf 3 (some .int) 2 t_X3_totalOf := mOK.of f_X3_totalOf (by decide) (fun _ => rfl) (fun g => mCodeOK kk_X3_totalOf) (fun g => mFldL fk_RX3 rfl) (fun g idx v h => by cases h) (fun g idx v h => by cases h) (mCalL (l := l_X3_totalOf) (List.forall_mem_cons.mpr ⟨mSite.SN (idx := 44) ok_X7_at (by decide) (by decide) wc_X7_at wm_RX3_44 wt_X7_at wn_RX7 wd_X7_at, fun _ h => absurd h List.not_mem_nil⟩) (fun _ => rfl)) (mIV_run m_X3_totalOf)

def k_X4_isMissing : List (Nat × mI) := [(0, .aload_n 0, 1, 0, 0, []),
  (1, .getfield 15, 3, 0, 0, []),
  (4, .iconst (-1), 1, 0, -1, []),
  (5, .if_icmp .ne 7, 3, 12, 0, []),
  (8, .iconst 1, 1, 0, nI 1, []),
  (9, .goto 4, 3, 13, 0, []),
  (12, .iconst 0, 1, 0, nI 0, []),
  (13, .ireturn, 1, 0, 0, [])]
theorem kk_X4_isMissing : (k_X4_isMissing.all fun e => mChk cX4_isMissing e.1 e.2) = true := by decide +kernel
def l_X4_isMissing : List (Nat × Nat × (mG → mT)) := []
def f_X4_isMissing (g : mG) : mF := (mLk k_X4_isMissing, mLk fl_RX4, mLk (l_X4_isMissing.map fun e => (e.1, e.2.1, e.2.2 g)), mLk ([] : List (Nat × mV)), mLk ([] : List (Nat × mV)), some .boolean)
theorem m_X4_isMissing (g : mG) : mMono (f_X4_isMissing g) := mMonoL (g := g) (l := l_X4_isMissing) (fun _ h => absurd h List.not_mem_nil) rfl
def t_X4_isMissing : mG → mT := mIV pl_X4 f_X4_isMissing 1 9
theorem mo_X4_isMissing : mMn t_X4_isMissing := mIV_mono m_X4_isMissing
theorem rv_X4_isMissing : mHasR yX4_isMissing 0 t_X4_isMissing := mIV_recv is_X4
theorem ok_X4_isMissing : mOK yX4_isMissing cX4_isMissing 1 (some .boolean) 1 t_X4_isMissing := mOK.of f_X4_isMissing (by decide) (fun _ => rfl) (fun g => mCodeOK kk_X4_isMissing) (fun g => mFldL fk_RX4 rfl) (fun g idx v h => by cases h) (fun g idx v h => by cases h) (mCalL (l := l_X4_isMissing) (fun _ h => absurd h List.not_mem_nil) (fun _ => rfl)) (mIV_run m_X4_isMissing)

def k_X4_holds : List (Nat × mI) := [(0, .iload_n 1, 1, 1, 0, []),
  (1, .ifCond .lt 29, 3, 30, 0, []),
  (4, .iload_n 2, 1, 2, 0, []),
  (5, .ifCond .lt 25, 3, 30, 0, []),
  (8, .iload_n 2, 1, 2, 0, []),
  (9, .aload_n 0, 1, 0, 0, []),
  (10, .getfield 19, 3, 0, 0, []),
  (13, .if_icmp .gt 17, 3, 30, 0, []),
  (16, .iload_n 1, 1, 1, 0, []),
  (17, .aload_n 0, 1, 0, 0, []),
  (18, .getfield 19, 3, 0, 0, []),
  (21, .iload_n 2, 1, 2, 0, []),
  (22, .isub, 1, 0, 0, []),
  (23, .if_icmp .gt 7, 3, 30, 0, []),
  (26, .iconst 1, 1, 0, nI 1, []),
  (27, .goto 4, 3, 31, 0, []),
  (30, .iconst 0, 1, 0, nI 0, []),
  (31, .ireturn, 1, 0, 0, [])]
theorem kk_X4_holds : (k_X4_holds.all fun e => mChk cX4_holds e.1 e.2) = true := by decide +kernel
def l_X4_holds : List (Nat × Nat × (mG → mT)) := []
def f_X4_holds (g : mG) : mF := (mLk k_X4_holds, mLk fl_RX4, mLk (l_X4_holds.map fun e => (e.1, e.2.1, e.2.2 g)), mLk ([] : List (Nat × mV)), mLk ([] : List (Nat × mV)), some .boolean)
theorem m_X4_holds (g : mG) : mMono (f_X4_holds g) := mMonoL (g := g) (l := l_X4_holds) (fun _ h => absurd h List.not_mem_nil) rfl
def t_X4_holds : mG → mT := mIV pl_X4 f_X4_holds 3 19
theorem mo_X4_holds : mMn t_X4_holds := mIV_mono m_X4_holds
theorem rv_X4_holds : mHasR yX4_holds 2 t_X4_holds := mIV_recv is_X4
theorem ok_X4_holds : mOK yX4_holds cX4_holds 3 (some .boolean) 1 t_X4_holds := mOK.of f_X4_holds (by decide) (fun _ => rfl) (fun g => mCodeOK kk_X4_holds) (fun g => mFldL fk_RX4 rfl) (fun g idx v h => by cases h) (fun g idx v h => by cases h) (mCalL (l := l_X4_holds) (fun _ h => absurd h List.not_mem_nil) (fun _ => rfl)) (mIV_run m_X4_holds)

def k_X5_inTurn : List (Nat × mI) := [(0, .aload_n 0, 1, 0, 0, []),
  (1, .getfield 35, 3, 0, 0, []),
  (4, .ifCond .ne 7, 3, 11, 0, []),
  (7, .iconst (-1), 1, 0, -1, []),
  (8, .goto 28, 3, 36, 0, []),
  (11, .aload_n 0, 1, 0, 0, []),
  (12, .getfield 35, 3, 0, 0, []),
  (15, .iconst 1, 1, 0, nI 1, []),
  (16, .if_icmp .ne 13, 3, 29, 0, []),
  (19, .aload_n 0, 1, 0, 0, []),
  (20, .getfield 12, 3, 0, 0, []),
  (23, .getfield 54, 3, 0, 0, []),
  (26, .goto 10, 3, 36, 0, []),
  (29, .aload_n 0, 1, 0, 0, []),
  (30, .getfield 21, 3, 0, 0, []),
  (33, .getfield 57, 3, 0, 0, []),
  (36, .ireturn, 1, 0, 0, [])]
theorem kk_X5_inTurn : (k_X5_inTurn.all fun e => mChk cX5_inTurn e.1 e.2) = true := by decide +kernel
def l_X5_inTurn : List (Nat × Nat × (mG → mT)) := []
def f_X5_inTurn (g : mG) : mF := (mLk k_X5_inTurn, mLk fl_RX5, mLk (l_X5_inTurn.map fun e => (e.1, e.2.1, e.2.2 g)), mLk ([] : List (Nat × mV)), mLk ([] : List (Nat × mV)), some .int)
theorem m_X5_inTurn (g : mG) : mMono (f_X5_inTurn g) := mMonoL (g := g) (l := l_X5_inTurn) (fun _ h => absurd h List.not_mem_nil) rfl
def t_X5_inTurn : mG → mT := mIV pl_X5 f_X5_inTurn 1 18
theorem mo_X5_inTurn : mMn t_X5_inTurn := mIV_mono m_X5_inTurn
theorem rv_X5_inTurn : mHasR yX5_inTurn 0 t_X5_inTurn := mIV_recv is_X5
theorem ok_X5_inTurn : mOK yX5_inTurn cX5_inTurn 1 (some .int) 1 t_X5_inTurn := mOK.of f_X5_inTurn (by decide) (fun _ => rfl) (fun g => mCodeOK kk_X5_inTurn) (fun g => mFldL fk_RX5 rfl) (fun g idx v h => by cases h) (fun g idx v h => by cases h) (mCalL (l := l_X5_inTurn) (fun _ h => absurd h List.not_mem_nil) (fun _ => rfl)) (mIV_run m_X5_inTurn)

def k_X5_isNearEnd : List (Nat × mI) := [(0, .aload_n 0, 1, 0, 0, []),
  (1, .getfield 35, 3, 0, 0, []),
  (4, .iconst 2, 1, 0, nI 2, []),
  (5, .if_icmp .ne 18, 3, 23, 0, []),
  (8, .aload_n 0, 1, 0, 0, []),
  (9, .getfield 21, 3, 0, 0, []),
  (12, .invokevirtual 58, 3, 0, 0, []),
  (15, .iconst 3, 1, 0, nI 3, []),
  (16, .if_icmp .gt 7, 3, 23, 0, []),
  (19, .iconst 1, 1, 0, nI 1, []),
  (20, .goto 4, 3, 24, 0, []),
  (23, .iconst 0, 1, 0, nI 0, []),
  (24, .ireturn, 1, 0, 0, [])]
theorem kk_X5_isNearEnd : (k_X5_isNearEnd.all fun e => mChk cX5_isNearEnd e.1 e.2) = true := by decide +kernel
def l_X5_isNearEnd : List (Nat × Nat × (mG → mT)) := [(3 * 58, 0 + 1, t_X2_left)]
def f_X5_isNearEnd (g : mG) : mF := (mLk k_X5_isNearEnd, mLk fl_RX5, mLk (l_X5_isNearEnd.map fun e => (e.1, e.2.1, e.2.2 g)), mLk ([] : List (Nat × mV)), mLk ([] : List (Nat × mV)), some .boolean)
theorem m_X5_isNearEnd (g : mG) : mMono (f_X5_isNearEnd g) := mMonoL (g := g) (l := l_X5_isNearEnd) (List.forall_mem_cons.mpr ⟨mo_X2_left, fun _ h => absurd h List.not_mem_nil⟩) rfl
def t_X5_isNearEnd : mG → mT := mIV pl_X5 f_X5_isNearEnd 1 14
theorem mo_X5_isNearEnd : mMn t_X5_isNearEnd := mIV_mono m_X5_isNearEnd
theorem rv_X5_isNearEnd : mHasR yX5_isNearEnd 0 t_X5_isNearEnd := mIV_recv is_X5
theorem ok_X5_isNearEnd : mOK yX5_isNearEnd cX5_isNearEnd 1 (some .boolean) 3 t_X5_isNearEnd := mOK.of f_X5_isNearEnd (by decide) (fun _ => rfl) (fun g => mCodeOK kk_X5_isNearEnd) (fun g => mFldL fk_RX5 rfl) (fun g idx v h => by cases h) (fun g idx v h => by cases h) (mCalL (l := l_X5_isNearEnd) (List.forall_mem_cons.mpr ⟨mSite.V (idx := 58) ok_X2_left (by decide) (by decide) rv_X2_left wc_X2_left wk_RX5_58 wi_X2_left wl_X2_left wn_RX2 wd_X2_left, fun _ h => absurd h List.not_mem_nil⟩) (fun _ => rfl)) (mIV_run m_X5_isNearEnd)

def k_X5_endDeal : List (Nat × mI) := [(0, .aload_n 0, 1, 0, 0, []),
  (1, .iconst 0, 1, 0, nI 0, []),
  (2, .putfield 35, 3, 0, 0, []),
  (5, .aload_n 0, 1, 0, 0, []),
  (6, .aload_n 0, 1, 0, 0, []),
  (7, .getfield 39, 3, 0, 0, []),
  (10, .iconst 1, 1, 0, nI 1, []),
  (11, .iadd, 1, 0, 0, []),
  (12, .iconst 3, 1, 0, nI 3, []),
  (13, .iand, 1, 0, 0, []),
  (14, .putfield 39, 3, 0, 0, []),
  (17, .return_, 1, 0, 0, [])]
theorem kk_X5_endDeal : (k_X5_endDeal.all fun e => mChk cX5_endDeal e.1 e.2) = true := by decide +kernel
def l_X5_endDeal : List (Nat × Nat × (mG → mT)) := []
def f_X5_endDeal (g : mG) : mF := (mLk k_X5_endDeal, mLk fl_RX5, mLk (l_X5_endDeal.map fun e => (e.1, e.2.1, e.2.2 g)), mLk ([] : List (Nat × mV)), mLk ([] : List (Nat × mV)), none)
theorem m_X5_endDeal (g : mG) : mMono (f_X5_endDeal g) := mMonoL (g := g) (l := l_X5_endDeal) (fun _ h => absurd h List.not_mem_nil) rfl
def t_X5_endDeal : mG → mT := mIV pl_X5 f_X5_endDeal 1 13
theorem mo_X5_endDeal : mMn t_X5_endDeal := mIV_mono m_X5_endDeal
theorem rv_X5_endDeal : mHasR yX5_endDeal 0 t_X5_endDeal := mIV_recv is_X5
theorem ok_X5_endDeal : mOK yX5_endDeal cX5_endDeal 1 (none) 1 t_X5_endDeal := mOK.of f_X5_endDeal (by decide) (fun _ => rfl) (fun g => mCodeOK kk_X5_endDeal) (fun g => mFldL fk_RX5 rfl) (fun g idx v h => by cases h) (fun g idx v h => by cases h) (mCalL (l := l_X5_endDeal) (fun _ h => absurd h List.not_mem_nil) (fun _ => rfl)) (mIV_run m_X5_endDeal)

def k_X5_isTimeFor : List (Nat × mI) := [(0, .iload_n 1, 1, 1, 0, []),
  (1, .tableswitch 120 1 6 #[39, 39, 53, 77, 101, 115], 39, 121, 0, [(nI 1, 40), (nI 2, 40), (nI 3, 54), (nI 4, 78), (nI 5, 102), (nI 6, 116)]),
  (40, .aload_n 0, 1, 0, 0, []),
  (41, .getfield 35, 3, 0, 0, []),
  (44, .iconst 1, 1, 0, nI 1, []),
  (45, .if_icmp .ne 7, 3, 52, 0, []),
  (48, .iconst 1, 1, 0, nI 1, []),
  (49, .goto 4, 3, 53, 0, []),
  (52, .iconst 0, 1, 0, nI 0, []),
  (53, .ireturn, 1, 0, 0, []),
  (54, .aload_n 0, 1, 0, 0, []),
  (55, .getfield 35, 3, 0, 0, []),
  (58, .iconst 1, 1, 0, nI 1, []),
  (59, .if_icmp .ne 17, 3, 76, 0, []),
  (62, .aload_n 0, 1, 0, 0, []),
  (63, .getfield 12, 3, 0, 0, []),
  (66, .invokevirtual 62, 3, 0, 0, []),
  (69, .ifCond .eq 7, 3, 76, 0, []),
  (72, .iconst 1, 1, 0, nI 1, []),
  (73, .goto 4, 3, 77, 0, []),
  (76, .iconst 0, 1, 0, nI 0, []),
  (77, .ireturn, 1, 0, 0, []),
  (78, .aload_n 0, 1, 0, 0, []),
  (79, .getfield 35, 3, 0, 0, []),
  (82, .iconst 1, 1, 0, nI 1, []),
  (83, .if_icmp .ne 17, 3, 100, 0, []),
  (86, .aload_n 0, 1, 0, 0, []),
  (87, .getfield 12, 3, 0, 0, []),
  (90, .invokevirtual 66, 3, 0, 0, []),
  (93, .ifCond .eq 7, 3, 100, 0, []),
  (96, .iconst 1, 1, 0, nI 1, []),
  (97, .goto 4, 3, 101, 0, []),
  (100, .iconst 0, 1, 0, nI 0, []),
  (101, .ireturn, 1, 0, 0, []),
  (102, .aload_n 0, 1, 0, 0, []),
  (103, .getfield 35, 3, 0, 0, []),
  (106, .iconst 2, 1, 0, nI 2, []),
  (107, .if_icmp .ne 7, 3, 114, 0, []),
  (110, .iconst 1, 1, 0, nI 1, []),
  (111, .goto 4, 3, 115, 0, []),
  (114, .iconst 0, 1, 0, nI 0, []),
  (115, .ireturn, 1, 0, 0, []),
  (116, .aload_n 0, 1, 0, 0, []),
  (117, .invokevirtual 69, 3, 0, 0, []),
  (120, .ireturn, 1, 0, 0, []),
  (121, .aload_n 0, 1, 0, 0, []),
  (122, .getfield 35, 3, 0, 0, []),
  (125, .ifCond .ne 7, 3, 132, 0, []),
  (128, .iconst 1, 1, 0, nI 1, []),
  (129, .goto 4, 3, 133, 0, []),
  (132, .iconst 0, 1, 0, nI 0, []),
  (133, .ireturn, 1, 0, 0, [])]
theorem kk_X5_isTimeFor : (k_X5_isTimeFor.all fun e => mChk cX5_isTimeFor e.1 e.2) = true := by decide +kernel
def l_X5_isTimeFor : List (Nat × Nat × (mG → mT)) := [(3 * 62, 0 + 1, t_X1_mayDouble), (3 * 66, 0 + 1, t_X1_mayRedouble), (3 * 69, 0 + 1, t_X5_isNearEnd)]
def f_X5_isTimeFor (g : mG) : mF := (mLk k_X5_isTimeFor, mLk fl_RX5, mLk (l_X5_isTimeFor.map fun e => (e.1, e.2.1, e.2.2 g)), mLk ([] : List (Nat × mV)), mLk ([] : List (Nat × mV)), some .boolean)
theorem m_X5_isTimeFor (g : mG) : mMono (f_X5_isTimeFor g) := mMonoL (g := g) (l := l_X5_isTimeFor) (List.forall_mem_cons.mpr ⟨mo_X1_mayDouble, List.forall_mem_cons.mpr ⟨mo_X1_mayRedouble, List.forall_mem_cons.mpr ⟨mo_X5_isNearEnd, fun _ h => absurd h List.not_mem_nil⟩⟩⟩) rfl
def t_X5_isTimeFor : mG → mT := mIV pl_X5 f_X5_isTimeFor 2 53
theorem mo_X5_isTimeFor : mMn t_X5_isTimeFor := mIV_mono m_X5_isTimeFor
theorem rv_X5_isTimeFor : mHasR yX5_isTimeFor 1 t_X5_isTimeFor := mIV_recv is_X5
theorem ok_X5_isTimeFor : mOK yX5_isTimeFor cX5_isTimeFor 2 (some .boolean) 4 t_X5_isTimeFor := mOK.of f_X5_isTimeFor (by decide) (fun _ => rfl) (fun g => mCodeOK kk_X5_isTimeFor) (fun g => mFldL fk_RX5 rfl) (fun g idx v h => by cases h) (fun g idx v h => by cases h) (mCalL (l := l_X5_isTimeFor) (List.forall_mem_cons.mpr ⟨mSite.V (idx := 62) ok_X1_mayDouble (by decide) (by decide) rv_X1_mayDouble wc_X1_mayDouble wk_RX5_62 wi_X1_mayDouble wl_X1_mayDouble wn_RX1 wd_X1_mayDouble, List.forall_mem_cons.mpr ⟨mSite.V (idx := 66) ok_X1_mayRedouble (by decide) (by decide) rv_X1_mayRedouble wc_X1_mayRedouble wk_RX5_66 wi_X1_mayRedouble wl_X1_mayRedouble wn_RX1 wd_X1_mayRedouble, List.forall_mem_cons.mpr ⟨mSite.V (idx := 69) ok_X5_isNearEnd (by decide) (by decide) rv_X5_isNearEnd wc_X5_isNearEnd wk_RX5_69 wi_X5_isNearEnd wl_X5_isNearEnd wn_RX5 wd_X5_isNearEnd, fun _ h => absurd h List.not_mem_nil⟩⟩⟩) (fun _ => rfl)) (mIV_run m_X5_isTimeFor)

