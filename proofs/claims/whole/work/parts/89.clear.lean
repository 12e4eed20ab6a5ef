/-! ===== THE TABLE BY ITSELF: its 13 cells, cleared ===== -/
def tSH : List mH := [(12, 0, [some 1, some 3, some 11, none, none, none, none]), (8, 0, [some 2, none, none, none, none, none, none, none]), (0, 10, []),
  (9, 0, [some 4, some 5, some 6, some 7, some 8, some 9, some 10, none, none, none, none, none]), (0, 32, []), (0, 4, []), (0, 4, []), (0, 32, []), (0, 8, []), (0, 8, []), (0, 2, []),
  (10, 0, [some 12, none, none, none, none, none]), (0, 12, [])]
theorem tSH_lt {a : Nat} {h : mH} (ha : tSH[a]? = some h) : a < 13 := (List.getElem?_eq_some_iff.mp ha).1
theorem ySx_at {g : mG} {a : Nat} {h : mH} (ha : tSH[a]? = some h) : (xS tSH g)[a]? = some h := by
  rw [xS, List.getElem?_append_left (tSH_lt ha)]
  exact ha
theorem ySH_no {a : Nat} {h : mH} (ha : tSH[a]? = some h) : mRoA a = none ∧ mRoS a = false := by
  have h13 := tSH_lt ha
  have : ∀ a, a < 13 → mRoA a = none ∧ mRoS a = false := by decide +kernel
  exact this a h13
theorem ySH_small {a n k : Nat} {rs : List (Option Nat)} (h : tSH[a]? = some (k, n, rs)) : n < 2 ^ 31 := by
  have h13 := tSH_lt h
  have : ∀ a, a < 13 → ∀ x, tSH[a]? = some x → x.2.1 < 2 ^ 31 := by decide +kernel
  exact this a h13 _ h
def pl_yX1 (a : Nat) : Bool := Nat.beq a 1
def pl_yX2 (a : Nat) : Bool := Nat.beq a 3
def pl_yX3 (a : Nat) : Bool := Nat.beq a 11
theorem yIsA_of {g : mG} {a ci : Nat} {rs : List (Option Nat)} {q : vw_C} {C : String} (h1 : tSH[a]? = some (ci + 5, 0, rs)) (h2 : vwCl[ci]? = some q) (h3 : q.1 = C) : mIsA (xS tSH g) C a := Or.inl ⟨ci, 0, rs, q, ySx_at h1, h2, h3⟩
theorem is_yX1 (g : mG) (a : Nat) (h : pl_yX1 a = true) : mIsA (xS tSH g) RX1 a := by
  obtain rfl := Nat.eq_of_beq_eq_true h
  exact yIsA_of (ci := 3) rfl rfl rfl
theorem is_yX2 (g : mG) (a : Nat) (h : pl_yX2 a = true) : mIsA (xS tSH g) RX2 a := by
  obtain rfl := Nat.eq_of_beq_eq_true h
  exact yIsA_of (ci := 4) rfl rfl rfl
theorem is_yX3 (g : mG) (a : Nat) (h : pl_yX3 a = true) : mIsA (xS tSH g) RX3 a := by
  obtain rfl := Nat.eq_of_beq_eq_true h
  exact yIsA_of (ci := 5) rfl rfl rfl
def yIV (pl : Nat → Bool) (F : mG → mF) (maxL fuel : Nat) : mG → mT := fun g as M P => match as with
  | .inr (some a) :: rs => match pl a, Nat.ble (rs.length + 1) maxL with
    | true, true => mVc (xS tSH g) (F g) P [] (fun _ => False) fuel (0, some (.inr (some a)) :: (rs.map some ++ List.replicate (maxL - (rs.length + 1)) none), [], M)
    | _, _ => False
  | _ => False
theorem yIV_mono {pl : Nat → Bool} {F : mG → mF} {maxL fuel : Nat} (hF : ∀ g, mMono (F g)) : mMn (yIV pl F maxL fuel) := fun g as M P Q h k => by
  unfold yIV at k ⊢
  split at k
  · split at k
    · exact mVc_mono (hF g) h (fun _ z => z) [] fuel k
    · exact k
  · exact k
theorem yIV_run {pl : Nat → Bool} {F : mG → mF} {maxL fuel : Nat} (hF : ∀ g, mMono (F g)) : xRunOf tSH maxL (yIV pl F maxL fuel) F := fun g as M P k => by
  unfold yIV at k
  split at k
  · rename_i a rs
    split at k
    · rename_i h1 h2
      rw [Nat.ble_eq] at h2
      exact ⟨h2, mRun.vc (hF g) [] fuel (mVc_mono (hF g) (fun _ _ z => z) (fun _ z => z.elim) [] fuel k)⟩
    · exact k.elim
  · exact k.elim
theorem yIV_recv {pl : Nat → Bool} {F : mG → mF} {maxL fuel : Nat} {y : MethodName} {n : Nat} (h : ∀ (g : mG) (a : Nat), pl a = true → mIsA (xS tSH g) y.cls a) : xHasR tSH y n (yIV pl F maxL fuel) := by
  intro g as M P k hl
  unfold yIV at k
  split at k
  · rename_i a rs
    split at k
    · rename_i hp _
      exact ⟨a, rs, rfl, h g a hp⟩
    · exact k.elim
  · exact k.elim
def t_yX7_fill : mG → mT := fun _ as M P => match as with
  | [.inr (some a), .inl v] => match tSH[a]? with
    | some (0, n, _) => P none (mUp M a (aFill (M a) n v))
    | _ => False
  | _ => False
theorem mo_yX7_fill : mMn t_yX7_fill := fun _ _ _ _ _ h k => by
  unfold t_yX7_fill at k ⊢
  split at k
  · split at k
    · exact h _ _ k
    · exact k
  · exact k
def k_yX7_fill : List (Nat × mI) := [(0, .iconst 0, 1, 0, nI 0, []),
  (1, .istore_n 2, 1, 2, 0, []),
  (2, .iload_n 2, 1, 2, 0, []),
  (3, .aload_n 0, 1, 0, 0, []),
  (4, .arraylength, 1, 1, 0, []),
  (5, .if_icmp .ge 13, 3, 18, 0, []),
  (8, .aload_n 0, 1, 0, 0, []),
  (9, .iload_n 2, 1, 2, 0, []),
  (10, .iload_n 1, 1, 1, 0, []),
  (11, .iastore, 1, 1, 0, []),
  (12, .iinc 2 1, 3, 2, nI 1, []),
  (15, .goto (-13), 3, 2, 0, []),
  (18, .return_, 1, 0, 0, [])]
theorem kk_yX7_fill : (k_yX7_fill.all fun e => mChk cX7_fill e.1 e.2) = true := by decide +kernel
def l_yX7_fill : List (Nat × Nat × (mG → mT)) := []
def f_yX7_fill (g : mG) : mF := (mLk k_yX7_fill, mLk fl_RX7, mLk (l_yX7_fill.map fun e => (e.1, e.2.1, e.2.2 g)), mLk ([] : List (Nat × mV)), mLk ([] : List (Nat × mV)), none)
theorem m_yX7_fill (g : mG) : mMono (f_yX7_fill g) := mMonoL (g := g) (l := l_yX7_fill) (fun _ h => absurd h List.not_mem_nil) rfl

theorem v_yX7_fill_0 (g : mG) (M : mM) (P : mP) (a : Nat) (v : Int32)
    (h : mRun (xS tSH g) (f_yX7_fill g) P (2, [some (.inr (some a)), some (.inl v), some (.inl (nI 0))], [], M)) :
    mRun (xS tSH g) (f_yX7_fill g) P (0, [some (.inr (some a)), some (.inl v), none], [], M) := mRun.vc (m_yX7_fill g) [2] 3 h

theorem v_yX7_fill_2 (g : mG) (M : mM) (P : mP) (a : Nat) (v i : Int32)
    (h : ∃ (n1 : Nat) (rs2 : List (Option Nat)), mRoA a = none ∧ (xS tSH g)[a]? = some (0, n1, rs2) ∧ (((nI n1) ≤ i → P none M) ∧ (¬ (nI n1) ≤ i → ∃ (n3 : Nat) (rs4 : List (Option Nat)), (xS tSH g)[a]? = some (0, n3, rs4) ∧ vp_in i n3 ∧ (let M5 : mM := mW1 M a i.toNatClampNeg v; mRun (xS tSH g) (f_yX7_fill g) P (2, [some (.inr (some a)), some (.inl v), some (.inl (i + (nI 1)))], [], M5))))) :
    mRun (xS tSH g) (f_yX7_fill g) P (2, [some (.inr (some a)), some (.inl v), some (.inl i)], [], M) := mRun.vc (m_yX7_fill g) [2] 11 h

theorem run_yX7_fill_2 (g : mG) (P : mP) (a n : Nat) (rs : List (Option Nat)) (M : mM) (v : Int32) (ha : tSH[a]? = some (0, n, rs)) (hP : P none (mUp M a (aFill (M a) n v))) :
    ∀ k i, i + k = n → mRun (xS tSH g) (f_yX7_fill g) P (2, [some (.inr (some a)), some (.inl v), some (.inl (nI i))], [], mUp M a (aFill (M a) i v))
  | 0, i, h => by
    have hn := ySH_small ha
    obtain rfl : i = n := by omega
    exact v_yX7_fill_2 g _ P a v (nI i) ⟨i, rs, (ySH_no ha).1, ySx_at ha, fun _ => hP, fun z => absurd (nI_le (Nat.le_refl i) hn) z⟩
  | k + 1, i, h => by
    have hn := ySH_small ha
    refine v_yX7_fill_2 g _ P a v (nI i) ⟨n, rs, (ySH_no ha).1, ySx_at ha, fun z => absurd z (nI_ge (by omega) hn), fun _ => ⟨n, rs, ySx_at ha, vp_in_nI (by omega) hn, ?_⟩⟩
    have := run_yX7_fill_2 g P a n rs M v ha hP k (i + 1) (by omega)
    intro M1
    have e : M1 = mUp M a (aFill (M a) (i + 1) v) := by
      show mUp (mUp M a _) a (upd (mUp M a _ a) _ v) = _
      rw [mUp_up, mUp_at, nI_clamp (by omega), aFill_s]
    rw [e, nI_add]
    exact this
theorem run_yX7_fill : xRunOf tSH 3 t_yX7_fill f_yX7_fill := fun g as M P hT => by
  unfold t_yX7_fill at hT
  split at hT
  · rename_i a v
    split at hT
    · rename_i n rs ha
      refine ⟨Nat.le_succ _, v_yX7_fill_0 g M P a v ?_⟩
      have := run_yX7_fill_2 g P a n rs M v ha hT n 0 (Nat.zero_add n)
      rw [aFill_0, mUp_same] at this
      exact this
    · exact hT.elim
  · exact hT.elim
theorem ok_yX7_fill : xOK tSH yX7_fill cX7_fill 3 (none) 1 t_yX7_fill := xOK.of f_yX7_fill (by decide) (fun _ => rfl) (fun g => mCodeOK kk_yX7_fill) (fun g => mFldL fk_RX7 rfl) (fun g idx v h => by cases h) (fun g idx v h => by cases h) (xCalL (l := l_yX7_fill) (fun _ h => absurd h List.not_mem_nil) (fun _ => rfl)) run_yX7_fill

def k_yX2_begin : List (Nat × mI) := [(0, .aload_n 0, 1, 0, 0, []),
  (1, .iload_n 1, 1, 1, 0, []),
  (2, .putfield 67, 3, 0, 0, []),
  (5, .aload_n 0, 1, 0, 0, []),
  (6, .iload_n 2, 1, 2, 0, []),
  (7, .putfield 70, 3, 0, 0, []),
  (10, .aload_n 0, 1, 0, 0, []),
  (11, .iload_n 3, 1, 3, 0, []),
  (12, .putfield 73, 3, 0, 0, []),
  (15, .aload_n 0, 1, 0, 0, []),
  (16, .iload 4, 2, 4, 0, []),
  (18, .putfield 76, 3, 0, 0, []),
  (21, .return_, 1, 0, 0, [])]
theorem kk_yX2_begin : (k_yX2_begin.all fun e => mChk cX2_begin e.1 e.2) = true := by decide +kernel
def l_yX2_begin : List (Nat × Nat × (mG → mT)) := []
def f_yX2_begin (g : mG) : mF := (mLk k_yX2_begin, mLk fl_RX2, mLk (l_yX2_begin.map fun e => (e.1, e.2.1, e.2.2 g)), mLk ([] : List (Nat × mV)), mLk ([] : List (Nat × mV)), none)
theorem m_yX2_begin (g : mG) : mMono (f_yX2_begin g) := mMonoL (g := g) (l := l_yX2_begin) (fun _ h => absurd h List.not_mem_nil) rfl
def t_yX2_begin : mG → mT := yIV pl_yX2 f_yX2_begin 5 14
theorem mo_yX2_begin : mMn t_yX2_begin := yIV_mono m_yX2_begin
theorem rv_yX2_begin : xHasR tSH yX2_begin 4 t_yX2_begin := yIV_recv is_yX2
theorem ok_yX2_begin : xOK tSH yX2_begin cX2_begin 5 (none) 1 t_yX2_begin := xOK.of f_yX2_begin (by decide) (fun _ => rfl) (fun g => mCodeOK kk_yX2_begin) (fun g => mFldL fk_RX2 rfl) (fun g idx v h => by cases h) (fun g idx v h => by cases h) (xCalL (l := l_yX2_begin) (fun _ h => absurd h List.not_mem_nil) (fun _ => rfl)) (yIV_run m_yX2_begin)

def k_yX2_clear : List (Nat × mI) := [(0, .aload_n 0, 1, 0, 0, []),
  (1, .getfield 15, 3, 0, 0, []),
  (4, .iconst 0, 1, 0, nI 0, []),
  (5, .invokestatic 33, 3, 0, 0, []),
  (8, .aload_n 0, 1, 0, 0, []),
  (9, .getfield 18, 3, 0, 0, []),
  (12, .iconst 0, 1, 0, nI 0, []),
  (13, .invokestatic 33, 3, 0, 0, []),
  (16, .aload_n 0, 1, 0, 0, []),
  (17, .getfield 30, 3, 0, 0, []),
  (20, .iconst 0, 1, 0, nI 0, []),
  (21, .invokestatic 33, 3, 0, 0, []),
  (24, .aload_n 0, 1, 0, 0, []),
  (25, .iconst 0, 1, 0, nI 0, []),
  (26, .putfield 37, 3, 0, 0, []),
  (29, .aload_n 0, 1, 0, 0, []),
  (30, .iconst 0, 1, 0, nI 0, []),
  (31, .iconst 4, 1, 0, nI 4, []),
  (32, .iconst 0, 1, 0, nI 0, []),
  (33, .iconst 0, 1, 0, nI 0, []),
  (34, .invokevirtual 41, 3, 0, 0, []),
  (37, .return_, 1, 0, 0, [])]
theorem kk_yX2_clear : (k_yX2_clear.all fun e => mChk cX2_clear e.1 e.2) = true := by decide +kernel
def l_yX2_clear : List (Nat × Nat × (mG → mT)) := [(3 * 33 + 1, 2, t_yX7_fill), (3 * 41, 4 + 1, t_yX2_begin)]
def f_yX2_clear (g : mG) : mF := (mLk k_yX2_clear, mLk fl_RX2, mLk (l_yX2_clear.map fun e => (e.1, e.2.1, e.2.2 g)), mLk ([] : List (Nat × mV)), mLk ([] : List (Nat × mV)), none)
theorem m_yX2_clear (g : mG) : mMono (f_yX2_clear g) := mMonoL (g := g) (l := l_yX2_clear) (List.forall_mem_cons.mpr ⟨mo_yX7_fill, List.forall_mem_cons.mpr ⟨mo_yX2_begin, fun _ h => absurd h List.not_mem_nil⟩⟩) rfl
def t_yX2_clear : mG → mT := yIV pl_yX2 f_yX2_clear 1 23
theorem mo_yX2_clear : mMn t_yX2_clear := yIV_mono m_yX2_clear
theorem rv_yX2_clear : xHasR tSH yX2_clear 0 t_yX2_clear := yIV_recv is_yX2
theorem ok_yX2_clear : xOK tSH yX2_clear cX2_clear 1 (none) 2 t_yX2_clear := xOK.of f_yX2_clear (by decide) (fun _ => rfl) (fun g => mCodeOK kk_yX2_clear) (fun g => mFldL fk_RX2 rfl) (fun g idx v h => by cases h) (fun g idx v h => by cases h) (xCalL (l := l_yX2_clear) (List.forall_mem_cons.mpr ⟨xSite.SN (idx := 33) ok_yX7_fill (fun _ h => h) (by decide) (by decide) wc_X7_fill wm_RX2_33 wt_X7_fill wn_RX7 wd_X7_fill, List.forall_mem_cons.mpr ⟨xSite.V (idx := 41) ok_yX2_begin (fun _ h => h) (by decide) (by decide) rv_yX2_begin wc_X2_begin wk_RX2_41 wi_X2_begin wl_X2_begin wn_RX2 wd_X2_begin, fun _ h => absurd h List.not_mem_nil⟩⟩) (fun _ => rfl)) (yIV_run m_yX2_clear)

def k_yX1_begin : List (Nat × mI) := [(0, .aload_n 0, 1, 0, 0, []),
  (1, .getfield 9, 3, 0, 0, []),
  (4, .iconst (-1), 1, 0, -1, []),
  (5, .invokestatic 15, 3, 0, 0, []),
  (8, .aload_n 0, 1, 0, 0, []),
  (9, .iload_n 1, 1, 1, 0, []),
  (10, .putfield 19, 3, 0, 0, []),
  (13, .aload_n 0, 1, 0, 0, []),
  (14, .iconst (-1), 1, 0, -1, []),
  (15, .putfield 23, 3, 0, 0, []),
  (18, .aload_n 0, 1, 0, 0, []),
  (19, .iconst (-1), 1, 0, -1, []),
  (20, .putfield 26, 3, 0, 0, []),
  (23, .aload_n 0, 1, 0, 0, []),
  (24, .iconst (-1), 1, 0, -1, []),
  (25, .putfield 29, 3, 0, 0, []),
  (28, .aload_n 0, 1, 0, 0, []),
  (29, .iconst 0, 1, 0, nI 0, []),
  (30, .putfield 32, 3, 0, 0, []),
  (33, .aload_n 0, 1, 0, 0, []),
  (34, .iconst 0, 1, 0, nI 0, []),
  (35, .putfield 35, 3, 0, 0, []),
  (38, .aload_n 0, 1, 0, 0, []),
  (39, .iconst (-1), 1, 0, -1, []),
  (40, .putfield 38, 3, 0, 0, []),
  (43, .return_, 1, 0, 0, [])]
theorem kk_yX1_begin : (k_yX1_begin.all fun e => mChk cX1_begin e.1 e.2) = true := by decide +kernel
def l_yX1_begin : List (Nat × Nat × (mG → mT)) := [(3 * 15 + 1, 2, t_yX7_fill)]
def f_yX1_begin (g : mG) : mF := (mLk k_yX1_begin, mLk fl_RX1, mLk (l_yX1_begin.map fun e => (e.1, e.2.1, e.2.2 g)), mLk ([] : List (Nat × mV)), mLk ([] : List (Nat × mV)), none)
theorem m_yX1_begin (g : mG) : mMono (f_yX1_begin g) := mMonoL (g := g) (l := l_yX1_begin) (List.forall_mem_cons.mpr ⟨mo_yX7_fill, fun _ h => absurd h List.not_mem_nil⟩) rfl
def t_yX1_begin : mG → mT := yIV pl_yX1 f_yX1_begin 2 27
theorem mo_yX1_begin : mMn t_yX1_begin := yIV_mono m_yX1_begin
theorem rv_yX1_begin : xHasR tSH yX1_begin 1 t_yX1_begin := yIV_recv is_yX1
theorem ok_yX1_begin : xOK tSH yX1_begin cX1_begin 2 (none) 2 t_yX1_begin := xOK.of f_yX1_begin (by decide) (fun _ => rfl) (fun g => mCodeOK kk_yX1_begin) (fun g => mFldL fk_RX1 rfl) (fun g idx v h => by cases h) (fun g idx v h => by cases h) (xCalL (l := l_yX1_begin) (List.forall_mem_cons.mpr ⟨xSite.SN (idx := 15) ok_yX7_fill (fun _ h => h) (by decide) (by decide) wc_X7_fill wm_RX1_15 wt_X7_fill wn_RX7 wd_X7_fill, fun _ h => absurd h List.not_mem_nil⟩) (fun _ => rfl)) (yIV_run m_yX1_begin)

def k_yX3_clear : List (Nat × mI) := [(0, .aload_n 0, 1, 0, 0, []),
  (1, .getfield 9, 3, 0, 0, []),
  (4, .iconst 0, 1, 0, nI 0, []),
  (5, .invokestatic 15, 3, 0, 0, []),
  (8, .aload_n 0, 1, 0, 0, []),
  (9, .iconst 0, 1, 0, nI 0, []),
  (10, .putfield 19, 3, 0, 0, []),
  (13, .return_, 1, 0, 0, [])]
theorem kk_yX3_clear : (k_yX3_clear.all fun e => mChk cX3_clear e.1 e.2) = true := by decide +kernel
def l_yX3_clear : List (Nat × Nat × (mG → mT)) := [(3 * 15 + 1, 2, t_yX7_fill)]
def f_yX3_clear (g : mG) : mF := (mLk k_yX3_clear, mLk fl_RX3, mLk (l_yX3_clear.map fun e => (e.1, e.2.1, e.2.2 g)), mLk ([] : List (Nat × mV)), mLk ([] : List (Nat × mV)), none)
theorem m_yX3_clear (g : mG) : mMono (f_yX3_clear g) := mMonoL (g := g) (l := l_yX3_clear) (List.forall_mem_cons.mpr ⟨mo_yX7_fill, fun _ h => absurd h List.not_mem_nil⟩) rfl
def t_yX3_clear : mG → mT := yIV pl_yX3 f_yX3_clear 1 9
theorem mo_yX3_clear : mMn t_yX3_clear := yIV_mono m_yX3_clear
theorem rv_yX3_clear : xHasR tSH yX3_clear 0 t_yX3_clear := yIV_recv is_yX3
theorem ok_yX3_clear : xOK tSH yX3_clear cX3_clear 1 (none) 2 t_yX3_clear := xOK.of f_yX3_clear (by decide) (fun _ => rfl) (fun g => mCodeOK kk_yX3_clear) (fun g => mFldL fk_RX3 rfl) (fun g idx v h => by cases h) (fun g idx v h => by cases h) (xCalL (l := l_yX3_clear) (List.forall_mem_cons.mpr ⟨xSite.SN (idx := 15) ok_yX7_fill (fun _ h => h) (by decide) (by decide) wc_X7_fill wm_RX3_15 wt_X7_fill wn_RX7 wd_X7_fill, fun _ h => absurd h List.not_mem_nil⟩) (fun _ => rfl)) (yIV_run m_yX3_clear)

def pre_yX5_clear (_ : Nat) (as : List mV) (_ : mM) : Prop := as = [.inr (some 0)]
def post_yX5_clear (_ : Nat) (_ : List mV) (_ : mM) (M' : mM) : Prop := RpT 0 M' tb0
abbrev t_yX5_clear : mG → mT := mRv pre_yX5_clear post_yX5_clear
theorem mo_yX5_clear : mMn t_yX5_clear := mRv_mono
theorem rv_yX5_clear : xHasR tSH yX5_clear 0 t_yX5_clear := by
  intro g as M P hT hl
  obtain ⟨q, h1, -⟩ := hT
  exact ⟨_, _, h1, yIsA_of (ci := 7) rfl rfl rfl⟩
def k_yX5_clear : List (Nat × mI) := [(0, .aload_n 0, 1, 0, 0, []),
  (1, .iconst 0, 1, 0, nI 0, []),
  (2, .putfield 35, 3, 0, 0, []),
  (5, .aload_n 0, 1, 0, 0, []),
  (6, .iconst 0, 1, 0, nI 0, []),
  (7, .putfield 39, 3, 0, 0, []),
  (10, .aload_n 0, 1, 0, 0, []),
  (11, .iconst 0, 1, 0, nI 0, []),
  (12, .putfield 42, 3, 0, 0, []),
  (15, .aload_n 0, 1, 0, 0, []),
  (16, .iconst 0, 1, 0, nI 0, []),
  (17, .putfield 45, 3, 0, 0, []),
  (20, .aload_n 0, 1, 0, 0, []),
  (21, .getfield 12, 3, 0, 0, []),
  (24, .iconst 0, 1, 0, nI 0, []),
  (25, .invokevirtual 48, 3, 0, 0, []),
  (28, .aload_n 0, 1, 0, 0, []),
  (29, .getfield 21, 3, 0, 0, []),
  (32, .invokevirtual 52, 3, 0, 0, []),
  (35, .aload_n 0, 1, 0, 0, []),
  (36, .getfield 28, 3, 0, 0, []),
  (39, .invokevirtual 53, 3, 0, 0, []),
  (42, .return_, 1, 0, 0, [])]
theorem kk_yX5_clear : (k_yX5_clear.all fun e => mChk cX5_clear e.1 e.2) = true := by decide +kernel
def l_yX5_clear : List (Nat × Nat × (mG → mT)) := [(3 * 48, 1 + 1, t_yX1_begin), (3 * 52, 0 + 1, t_yX2_clear), (3 * 53, 0 + 1, t_yX3_clear)]
def f_yX5_clear (g : mG) : mF := (mLk k_yX5_clear, mLk fl_RX5, mLk (l_yX5_clear.map fun e => (e.1, e.2.1, e.2.2 g)), mLk ([] : List (Nat × mV)), mLk ([] : List (Nat × mV)), none)
theorem m_yX5_clear (g : mG) : mMono (f_yX5_clear g) := mMonoL (g := g) (l := l_yX5_clear) (List.forall_mem_cons.mpr ⟨mo_yX1_begin, List.forall_mem_cons.mpr ⟨mo_yX2_clear, List.forall_mem_cons.mpr ⟨mo_yX3_clear, fun _ h => absurd h List.not_mem_nil⟩⟩⟩) rfl


set_option maxRecDepth 100000 in
theorem v_ycr (g : mG) (M : mM) (P : mP) 
    (h : let M1 : mM := mW1 M 0 3 (nI 0); let M2 : mM := mW1 M1 0 4 (nI 0); let M3 : mM := mW1 M2 0 5 (nI 0); let M4 : mM := mW1 M3 0 6 (nI 0); let M5 : mM := mUp M4 2 (aFill (M 2) 10 (-1)); let M6 : mM := mW1 M5 1 1 (nI 0); let M7 : mM := mW1 M6 1 2 (-1); let M8 : mM := mW1 M7 1 3 (-1); let M9 : mM := mW1 M8 1 4 (-1); let M10 : mM := mW1 M9 1 5 (nI 0); let M11 : mM := mW1 M10 1 6 (nI 0); let M12 : mM := mW1 M11 1 7 (-1); let M13 : mM := mUp M12 5 (aFill (M 5) 4 (nI 0)); let M14 : mM := mUp M13 6 (aFill (M 6) 4 (nI 0)); let M15 : mM := mUp M14 10 (aFill (M 10) 2 (nI 0)); let M16 : mM := mW1 M15 3 7 (nI 0); let M17 : mM := mW1 M16 3 8 (nI 0); let M18 : mM := mW1 M17 3 9 (nI 4); let M19 : mM := mW1 M18 3 10 (nI 0); let M20 : mM := mW1 M19 3 11 (nI 0); let M21 : mM := mUp M20 12 (aFill (M 12) 12 (nI 0)); ((nI 0) = 0 ∨ (nI 0) = 1) ∧ (let M22 : mM := mW1 M21 11 1 (nI 0); P none M22)) :
    mRun (xS tSH g) (f_yX5_clear g) P (0, [some (.inr (some 0))], [], M) := mRun.vc (m_yX5_clear g) [] 23 h

theorem run_yX5_clear : xRunOf tSH 1 t_yX5_clear f_yX5_clear := fun g as M P hT => by
  obtain ⟨q, rfl, hP⟩ := hT
  refine ⟨Nat.le_of_ble_eq_true rfl, ?_⟩
  refine v_ycr g M P ?_
  intro M1 M2 M3 M4 M5 M6 M7 M8 M9 M10 M11 M12 M13 M14 M15 M16 M17 M18 M19 M20 M21
  refine ⟨Or.inl rfl, ?_⟩
  intro M22
  have c0_3 : M22 0 3 = nI 0 := by
    show (mW1 (mUp (mW1 (mW1 (mW1 (mW1 (mW1 (mUp (mUp (mUp (mW1 (mW1 (mW1 (mW1 (mW1 (mW1 (mW1 (mUp (mW1 (mW1 (mW1 (mW1 M 0 3 (nI 0)) 0 4 (nI 0)) 0 5 (nI 0)) 0 6 (nI 0)) 2 (aFill (M 2) 10 (-1))) 1 1 (nI 0)) 1 2 (-1)) 1 3 (-1)) 1 4 (-1)) 1 5 (nI 0)) 1 6 (nI 0)) 1 7 (-1)) 5 (aFill (M 5) 4 (nI 0))) 6 (aFill (M 6) 4 (nI 0))) 10 (aFill (M 10) 2 (nI 0))) 3 7 (nI 0)) 3 8 (nI 0)) 3 9 (nI 4)) 3 10 (nI 0)) 3 11 (nI 0)) 12 (aFill (M 12) 12 (nI 0))) 11 1 (nI 0)) 0 3 = _
    simp (disch := decide) only [mW1_k, mW1_s, mW1_c, mUp_at, mUp_ne]
  have c0_4 : M22 0 4 = nI 0 := by
    show (mW1 (mUp (mW1 (mW1 (mW1 (mW1 (mW1 (mUp (mUp (mUp (mW1 (mW1 (mW1 (mW1 (mW1 (mW1 (mW1 (mUp (mW1 (mW1 (mW1 (mW1 M 0 3 (nI 0)) 0 4 (nI 0)) 0 5 (nI 0)) 0 6 (nI 0)) 2 (aFill (M 2) 10 (-1))) 1 1 (nI 0)) 1 2 (-1)) 1 3 (-1)) 1 4 (-1)) 1 5 (nI 0)) 1 6 (nI 0)) 1 7 (-1)) 5 (aFill (M 5) 4 (nI 0))) 6 (aFill (M 6) 4 (nI 0))) 10 (aFill (M 10) 2 (nI 0))) 3 7 (nI 0)) 3 8 (nI 0)) 3 9 (nI 4)) 3 10 (nI 0)) 3 11 (nI 0)) 12 (aFill (M 12) 12 (nI 0))) 11 1 (nI 0)) 0 4 = _
    simp (disch := decide) only [mW1_k, mW1_s, mW1_c, mUp_at, mUp_ne]
  have c0_5 : M22 0 5 = nI 0 := by
    show (mW1 (mUp (mW1 (mW1 (mW1 (mW1 (mW1 (mUp (mUp (mUp (mW1 (mW1 (mW1 (mW1 (mW1 (mW1 (mW1 (mUp (mW1 (mW1 (mW1 (mW1 M 0 3 (nI 0)) 0 4 (nI 0)) 0 5 (nI 0)) 0 6 (nI 0)) 2 (aFill (M 2) 10 (-1))) 1 1 (nI 0)) 1 2 (-1)) 1 3 (-1)) 1 4 (-1)) 1 5 (nI 0)) 1 6 (nI 0)) 1 7 (-1)) 5 (aFill (M 5) 4 (nI 0))) 6 (aFill (M 6) 4 (nI 0))) 10 (aFill (M 10) 2 (nI 0))) 3 7 (nI 0)) 3 8 (nI 0)) 3 9 (nI 4)) 3 10 (nI 0)) 3 11 (nI 0)) 12 (aFill (M 12) 12 (nI 0))) 11 1 (nI 0)) 0 5 = _
    simp (disch := decide) only [mW1_k, mW1_s, mW1_c, mUp_at, mUp_ne]
  have c0_6 : M22 0 6 = nI 0 := by
    show (mW1 (mUp (mW1 (mW1 (mW1 (mW1 (mW1 (mUp (mUp (mUp (mW1 (mW1 (mW1 (mW1 (mW1 (mW1 (mW1 (mUp (mW1 (mW1 (mW1 (mW1 M 0 3 (nI 0)) 0 4 (nI 0)) 0 5 (nI 0)) 0 6 (nI 0)) 2 (aFill (M 2) 10 (-1))) 1 1 (nI 0)) 1 2 (-1)) 1 3 (-1)) 1 4 (-1)) 1 5 (nI 0)) 1 6 (nI 0)) 1 7 (-1)) 5 (aFill (M 5) 4 (nI 0))) 6 (aFill (M 6) 4 (nI 0))) 10 (aFill (M 10) 2 (nI 0))) 3 7 (nI 0)) 3 8 (nI 0)) 3 9 (nI 4)) 3 10 (nI 0)) 3 11 (nI 0)) 12 (aFill (M 12) 12 (nI 0))) 11 1 (nI 0)) 0 6 = _
    simp (disch := decide) only [mW1_k, mW1_s, mW1_c, mUp_at, mUp_ne]
  have c1_1 : M22 1 1 = nI 0 := by
    show (mW1 (mUp (mW1 (mW1 (mW1 (mW1 (mW1 (mUp (mUp (mUp (mW1 (mW1 (mW1 (mW1 (mW1 (mW1 (mW1 (mUp (mW1 (mW1 (mW1 (mW1 M 0 3 (nI 0)) 0 4 (nI 0)) 0 5 (nI 0)) 0 6 (nI 0)) 2 (aFill (M 2) 10 (-1))) 1 1 (nI 0)) 1 2 (-1)) 1 3 (-1)) 1 4 (-1)) 1 5 (nI 0)) 1 6 (nI 0)) 1 7 (-1)) 5 (aFill (M 5) 4 (nI 0))) 6 (aFill (M 6) 4 (nI 0))) 10 (aFill (M 10) 2 (nI 0))) 3 7 (nI 0)) 3 8 (nI 0)) 3 9 (nI 4)) 3 10 (nI 0)) 3 11 (nI 0)) 12 (aFill (M 12) 12 (nI 0))) 11 1 (nI 0)) 1 1 = _
    simp (disch := decide) only [mW1_k, mW1_s, mW1_c, mUp_at, mUp_ne]
  have c1_2 : M22 1 2 = -1 := by
    show (mW1 (mUp (mW1 (mW1 (mW1 (mW1 (mW1 (mUp (mUp (mUp (mW1 (mW1 (mW1 (mW1 (mW1 (mW1 (mW1 (mUp (mW1 (mW1 (mW1 (mW1 M 0 3 (nI 0)) 0 4 (nI 0)) 0 5 (nI 0)) 0 6 (nI 0)) 2 (aFill (M 2) 10 (-1))) 1 1 (nI 0)) 1 2 (-1)) 1 3 (-1)) 1 4 (-1)) 1 5 (nI 0)) 1 6 (nI 0)) 1 7 (-1)) 5 (aFill (M 5) 4 (nI 0))) 6 (aFill (M 6) 4 (nI 0))) 10 (aFill (M 10) 2 (nI 0))) 3 7 (nI 0)) 3 8 (nI 0)) 3 9 (nI 4)) 3 10 (nI 0)) 3 11 (nI 0)) 12 (aFill (M 12) 12 (nI 0))) 11 1 (nI 0)) 1 2 = _
    simp (disch := decide) only [mW1_k, mW1_s, mW1_c, mUp_at, mUp_ne]
  have c1_3 : M22 1 3 = -1 := by
    show (mW1 (mUp (mW1 (mW1 (mW1 (mW1 (mW1 (mUp (mUp (mUp (mW1 (mW1 (mW1 (mW1 (mW1 (mW1 (mW1 (mUp (mW1 (mW1 (mW1 (mW1 M 0 3 (nI 0)) 0 4 (nI 0)) 0 5 (nI 0)) 0 6 (nI 0)) 2 (aFill (M 2) 10 (-1))) 1 1 (nI 0)) 1 2 (-1)) 1 3 (-1)) 1 4 (-1)) 1 5 (nI 0)) 1 6 (nI 0)) 1 7 (-1)) 5 (aFill (M 5) 4 (nI 0))) 6 (aFill (M 6) 4 (nI 0))) 10 (aFill (M 10) 2 (nI 0))) 3 7 (nI 0)) 3 8 (nI 0)) 3 9 (nI 4)) 3 10 (nI 0)) 3 11 (nI 0)) 12 (aFill (M 12) 12 (nI 0))) 11 1 (nI 0)) 1 3 = _
    simp (disch := decide) only [mW1_k, mW1_s, mW1_c, mUp_at, mUp_ne]
  have c1_4 : M22 1 4 = -1 := by
    show (mW1 (mUp (mW1 (mW1 (mW1 (mW1 (mW1 (mUp (mUp (mUp (mW1 (mW1 (mW1 (mW1 (mW1 (mW1 (mW1 (mUp (mW1 (mW1 (mW1 (mW1 M 0 3 (nI 0)) 0 4 (nI 0)) 0 5 (nI 0)) 0 6 (nI 0)) 2 (aFill (M 2) 10 (-1))) 1 1 (nI 0)) 1 2 (-1)) 1 3 (-1)) 1 4 (-1)) 1 5 (nI 0)) 1 6 (nI 0)) 1 7 (-1)) 5 (aFill (M 5) 4 (nI 0))) 6 (aFill (M 6) 4 (nI 0))) 10 (aFill (M 10) 2 (nI 0))) 3 7 (nI 0)) 3 8 (nI 0)) 3 9 (nI 4)) 3 10 (nI 0)) 3 11 (nI 0)) 12 (aFill (M 12) 12 (nI 0))) 11 1 (nI 0)) 1 4 = _
    simp (disch := decide) only [mW1_k, mW1_s, mW1_c, mUp_at, mUp_ne]
  have c1_5 : M22 1 5 = nI 0 := by
    show (mW1 (mUp (mW1 (mW1 (mW1 (mW1 (mW1 (mUp (mUp (mUp (mW1 (mW1 (mW1 (mW1 (mW1 (mW1 (mW1 (mUp (mW1 (mW1 (mW1 (mW1 M 0 3 (nI 0)) 0 4 (nI 0)) 0 5 (nI 0)) 0 6 (nI 0)) 2 (aFill (M 2) 10 (-1))) 1 1 (nI 0)) 1 2 (-1)) 1 3 (-1)) 1 4 (-1)) 1 5 (nI 0)) 1 6 (nI 0)) 1 7 (-1)) 5 (aFill (M 5) 4 (nI 0))) 6 (aFill (M 6) 4 (nI 0))) 10 (aFill (M 10) 2 (nI 0))) 3 7 (nI 0)) 3 8 (nI 0)) 3 9 (nI 4)) 3 10 (nI 0)) 3 11 (nI 0)) 12 (aFill (M 12) 12 (nI 0))) 11 1 (nI 0)) 1 5 = _
    simp (disch := decide) only [mW1_k, mW1_s, mW1_c, mUp_at, mUp_ne]
  have c1_6 : M22 1 6 = nI 0 := by
    show (mW1 (mUp (mW1 (mW1 (mW1 (mW1 (mW1 (mUp (mUp (mUp (mW1 (mW1 (mW1 (mW1 (mW1 (mW1 (mW1 (mUp (mW1 (mW1 (mW1 (mW1 M 0 3 (nI 0)) 0 4 (nI 0)) 0 5 (nI 0)) 0 6 (nI 0)) 2 (aFill (M 2) 10 (-1))) 1 1 (nI 0)) 1 2 (-1)) 1 3 (-1)) 1 4 (-1)) 1 5 (nI 0)) 1 6 (nI 0)) 1 7 (-1)) 5 (aFill (M 5) 4 (nI 0))) 6 (aFill (M 6) 4 (nI 0))) 10 (aFill (M 10) 2 (nI 0))) 3 7 (nI 0)) 3 8 (nI 0)) 3 9 (nI 4)) 3 10 (nI 0)) 3 11 (nI 0)) 12 (aFill (M 12) 12 (nI 0))) 11 1 (nI 0)) 1 6 = _
    simp (disch := decide) only [mW1_k, mW1_s, mW1_c, mUp_at, mUp_ne]
  have c1_7 : M22 1 7 = -1 := by
    show (mW1 (mUp (mW1 (mW1 (mW1 (mW1 (mW1 (mUp (mUp (mUp (mW1 (mW1 (mW1 (mW1 (mW1 (mW1 (mW1 (mUp (mW1 (mW1 (mW1 (mW1 M 0 3 (nI 0)) 0 4 (nI 0)) 0 5 (nI 0)) 0 6 (nI 0)) 2 (aFill (M 2) 10 (-1))) 1 1 (nI 0)) 1 2 (-1)) 1 3 (-1)) 1 4 (-1)) 1 5 (nI 0)) 1 6 (nI 0)) 1 7 (-1)) 5 (aFill (M 5) 4 (nI 0))) 6 (aFill (M 6) 4 (nI 0))) 10 (aFill (M 10) 2 (nI 0))) 3 7 (nI 0)) 3 8 (nI 0)) 3 9 (nI 4)) 3 10 (nI 0)) 3 11 (nI 0)) 12 (aFill (M 12) 12 (nI 0))) 11 1 (nI 0)) 1 7 = _
    simp (disch := decide) only [mW1_k, mW1_s, mW1_c, mUp_at, mUp_ne]
  have c3_7 : M22 3 7 = nI 0 := by
    show (mW1 (mUp (mW1 (mW1 (mW1 (mW1 (mW1 (mUp (mUp (mUp (mW1 (mW1 (mW1 (mW1 (mW1 (mW1 (mW1 (mUp (mW1 (mW1 (mW1 (mW1 M 0 3 (nI 0)) 0 4 (nI 0)) 0 5 (nI 0)) 0 6 (nI 0)) 2 (aFill (M 2) 10 (-1))) 1 1 (nI 0)) 1 2 (-1)) 1 3 (-1)) 1 4 (-1)) 1 5 (nI 0)) 1 6 (nI 0)) 1 7 (-1)) 5 (aFill (M 5) 4 (nI 0))) 6 (aFill (M 6) 4 (nI 0))) 10 (aFill (M 10) 2 (nI 0))) 3 7 (nI 0)) 3 8 (nI 0)) 3 9 (nI 4)) 3 10 (nI 0)) 3 11 (nI 0)) 12 (aFill (M 12) 12 (nI 0))) 11 1 (nI 0)) 3 7 = _
    simp (disch := decide) only [mW1_k, mW1_s, mW1_c, mUp_at, mUp_ne]
  have c3_8 : M22 3 8 = nI 0 := by
    show (mW1 (mUp (mW1 (mW1 (mW1 (mW1 (mW1 (mUp (mUp (mUp (mW1 (mW1 (mW1 (mW1 (mW1 (mW1 (mW1 (mUp (mW1 (mW1 (mW1 (mW1 M 0 3 (nI 0)) 0 4 (nI 0)) 0 5 (nI 0)) 0 6 (nI 0)) 2 (aFill (M 2) 10 (-1))) 1 1 (nI 0)) 1 2 (-1)) 1 3 (-1)) 1 4 (-1)) 1 5 (nI 0)) 1 6 (nI 0)) 1 7 (-1)) 5 (aFill (M 5) 4 (nI 0))) 6 (aFill (M 6) 4 (nI 0))) 10 (aFill (M 10) 2 (nI 0))) 3 7 (nI 0)) 3 8 (nI 0)) 3 9 (nI 4)) 3 10 (nI 0)) 3 11 (nI 0)) 12 (aFill (M 12) 12 (nI 0))) 11 1 (nI 0)) 3 8 = _
    simp (disch := decide) only [mW1_k, mW1_s, mW1_c, mUp_at, mUp_ne]
  have c3_9 : M22 3 9 = nI 4 := by
    show (mW1 (mUp (mW1 (mW1 (mW1 (mW1 (mW1 (mUp (mUp (mUp (mW1 (mW1 (mW1 (mW1 (mW1 (mW1 (mW1 (mUp (mW1 (mW1 (mW1 (mW1 M 0 3 (nI 0)) 0 4 (nI 0)) 0 5 (nI 0)) 0 6 (nI 0)) 2 (aFill (M 2) 10 (-1))) 1 1 (nI 0)) 1 2 (-1)) 1 3 (-1)) 1 4 (-1)) 1 5 (nI 0)) 1 6 (nI 0)) 1 7 (-1)) 5 (aFill (M 5) 4 (nI 0))) 6 (aFill (M 6) 4 (nI 0))) 10 (aFill (M 10) 2 (nI 0))) 3 7 (nI 0)) 3 8 (nI 0)) 3 9 (nI 4)) 3 10 (nI 0)) 3 11 (nI 0)) 12 (aFill (M 12) 12 (nI 0))) 11 1 (nI 0)) 3 9 = _
    simp (disch := decide) only [mW1_k, mW1_s, mW1_c, mUp_at, mUp_ne]
  have c3_10 : M22 3 10 = nI 0 := by
    show (mW1 (mUp (mW1 (mW1 (mW1 (mW1 (mW1 (mUp (mUp (mUp (mW1 (mW1 (mW1 (mW1 (mW1 (mW1 (mW1 (mUp (mW1 (mW1 (mW1 (mW1 M 0 3 (nI 0)) 0 4 (nI 0)) 0 5 (nI 0)) 0 6 (nI 0)) 2 (aFill (M 2) 10 (-1))) 1 1 (nI 0)) 1 2 (-1)) 1 3 (-1)) 1 4 (-1)) 1 5 (nI 0)) 1 6 (nI 0)) 1 7 (-1)) 5 (aFill (M 5) 4 (nI 0))) 6 (aFill (M 6) 4 (nI 0))) 10 (aFill (M 10) 2 (nI 0))) 3 7 (nI 0)) 3 8 (nI 0)) 3 9 (nI 4)) 3 10 (nI 0)) 3 11 (nI 0)) 12 (aFill (M 12) 12 (nI 0))) 11 1 (nI 0)) 3 10 = _
    simp (disch := decide) only [mW1_k, mW1_s, mW1_c, mUp_at, mUp_ne]
  have c3_11 : M22 3 11 = nI 0 := by
    show (mW1 (mUp (mW1 (mW1 (mW1 (mW1 (mW1 (mUp (mUp (mUp (mW1 (mW1 (mW1 (mW1 (mW1 (mW1 (mW1 (mUp (mW1 (mW1 (mW1 (mW1 M 0 3 (nI 0)) 0 4 (nI 0)) 0 5 (nI 0)) 0 6 (nI 0)) 2 (aFill (M 2) 10 (-1))) 1 1 (nI 0)) 1 2 (-1)) 1 3 (-1)) 1 4 (-1)) 1 5 (nI 0)) 1 6 (nI 0)) 1 7 (-1)) 5 (aFill (M 5) 4 (nI 0))) 6 (aFill (M 6) 4 (nI 0))) 10 (aFill (M 10) 2 (nI 0))) 3 7 (nI 0)) 3 8 (nI 0)) 3 9 (nI 4)) 3 10 (nI 0)) 3 11 (nI 0)) 12 (aFill (M 12) 12 (nI 0))) 11 1 (nI 0)) 3 11 = _
    simp (disch := decide) only [mW1_k, mW1_s, mW1_c, mUp_at, mUp_ne]
  have c11_1 : M22 11 1 = nI 0 := by
    show (mW1 (mUp (mW1 (mW1 (mW1 (mW1 (mW1 (mUp (mUp (mUp (mW1 (mW1 (mW1 (mW1 (mW1 (mW1 (mW1 (mUp (mW1 (mW1 (mW1 (mW1 M 0 3 (nI 0)) 0 4 (nI 0)) 0 5 (nI 0)) 0 6 (nI 0)) 2 (aFill (M 2) 10 (-1))) 1 1 (nI 0)) 1 2 (-1)) 1 3 (-1)) 1 4 (-1)) 1 5 (nI 0)) 1 6 (nI 0)) 1 7 (-1)) 5 (aFill (M 5) 4 (nI 0))) 6 (aFill (M 6) 4 (nI 0))) 10 (aFill (M 10) 2 (nI 0))) 3 7 (nI 0)) 3 8 (nI 0)) 3 9 (nI 4)) 3 10 (nI 0)) 3 11 (nI 0)) 12 (aFill (M 12) 12 (nI 0))) 11 1 (nI 0)) 11 1 = _
    simp (disch := decide) only [mW1_k, mW1_s, mW1_c, mUp_at, mUp_ne]
  have a2 : M22 2 = aFill (M 2) 10 (-1) := by
    show (mW1 (mUp (mW1 (mW1 (mW1 (mW1 (mW1 (mUp (mUp (mUp (mW1 (mW1 (mW1 (mW1 (mW1 (mW1 (mW1 (mUp (mW1 (mW1 (mW1 (mW1 M 0 3 (nI 0)) 0 4 (nI 0)) 0 5 (nI 0)) 0 6 (nI 0)) 2 (aFill (M 2) 10 (-1))) 1 1 (nI 0)) 1 2 (-1)) 1 3 (-1)) 1 4 (-1)) 1 5 (nI 0)) 1 6 (nI 0)) 1 7 (-1)) 5 (aFill (M 5) 4 (nI 0))) 6 (aFill (M 6) 4 (nI 0))) 10 (aFill (M 10) 2 (nI 0))) 3 7 (nI 0)) 3 8 (nI 0)) 3 9 (nI 4)) 3 10 (nI 0)) 3 11 (nI 0)) 12 (aFill (M 12) 12 (nI 0))) 11 1 (nI 0)) 2 = _
    simp (disch := decide) only [mW1_k, mW1_s, mW1_c, mUp_at, mUp_ne]
  have a5 : M22 5 = aFill (M 5) 4 (nI 0) := by
    show (mW1 (mUp (mW1 (mW1 (mW1 (mW1 (mW1 (mUp (mUp (mUp (mW1 (mW1 (mW1 (mW1 (mW1 (mW1 (mW1 (mUp (mW1 (mW1 (mW1 (mW1 M 0 3 (nI 0)) 0 4 (nI 0)) 0 5 (nI 0)) 0 6 (nI 0)) 2 (aFill (M 2) 10 (-1))) 1 1 (nI 0)) 1 2 (-1)) 1 3 (-1)) 1 4 (-1)) 1 5 (nI 0)) 1 6 (nI 0)) 1 7 (-1)) 5 (aFill (M 5) 4 (nI 0))) 6 (aFill (M 6) 4 (nI 0))) 10 (aFill (M 10) 2 (nI 0))) 3 7 (nI 0)) 3 8 (nI 0)) 3 9 (nI 4)) 3 10 (nI 0)) 3 11 (nI 0)) 12 (aFill (M 12) 12 (nI 0))) 11 1 (nI 0)) 5 = _
    simp (disch := decide) only [mW1_k, mW1_s, mW1_c, mUp_at, mUp_ne]
  have a6 : M22 6 = aFill (M 6) 4 (nI 0) := by
    show (mW1 (mUp (mW1 (mW1 (mW1 (mW1 (mW1 (mUp (mUp (mUp (mW1 (mW1 (mW1 (mW1 (mW1 (mW1 (mW1 (mUp (mW1 (mW1 (mW1 (mW1 M 0 3 (nI 0)) 0 4 (nI 0)) 0 5 (nI 0)) 0 6 (nI 0)) 2 (aFill (M 2) 10 (-1))) 1 1 (nI 0)) 1 2 (-1)) 1 3 (-1)) 1 4 (-1)) 1 5 (nI 0)) 1 6 (nI 0)) 1 7 (-1)) 5 (aFill (M 5) 4 (nI 0))) 6 (aFill (M 6) 4 (nI 0))) 10 (aFill (M 10) 2 (nI 0))) 3 7 (nI 0)) 3 8 (nI 0)) 3 9 (nI 4)) 3 10 (nI 0)) 3 11 (nI 0)) 12 (aFill (M 12) 12 (nI 0))) 11 1 (nI 0)) 6 = _
    simp (disch := decide) only [mW1_k, mW1_s, mW1_c, mUp_at, mUp_ne]
  have a10 : M22 10 = aFill (M 10) 2 (nI 0) := by
    show (mW1 (mUp (mW1 (mW1 (mW1 (mW1 (mW1 (mUp (mUp (mUp (mW1 (mW1 (mW1 (mW1 (mW1 (mW1 (mW1 (mUp (mW1 (mW1 (mW1 (mW1 M 0 3 (nI 0)) 0 4 (nI 0)) 0 5 (nI 0)) 0 6 (nI 0)) 2 (aFill (M 2) 10 (-1))) 1 1 (nI 0)) 1 2 (-1)) 1 3 (-1)) 1 4 (-1)) 1 5 (nI 0)) 1 6 (nI 0)) 1 7 (-1)) 5 (aFill (M 5) 4 (nI 0))) 6 (aFill (M 6) 4 (nI 0))) 10 (aFill (M 10) 2 (nI 0))) 3 7 (nI 0)) 3 8 (nI 0)) 3 9 (nI 4)) 3 10 (nI 0)) 3 11 (nI 0)) 12 (aFill (M 12) 12 (nI 0))) 11 1 (nI 0)) 10 = _
    simp (disch := decide) only [mW1_k, mW1_s, mW1_c, mUp_at, mUp_ne]
  have a12 : M22 12 = aFill (M 12) 12 (nI 0) := by
    show (mW1 (mUp (mW1 (mW1 (mW1 (mW1 (mW1 (mUp (mUp (mUp (mW1 (mW1 (mW1 (mW1 (mW1 (mW1 (mW1 (mUp (mW1 (mW1 (mW1 (mW1 M 0 3 (nI 0)) 0 4 (nI 0)) 0 5 (nI 0)) 0 6 (nI 0)) 2 (aFill (M 2) 10 (-1))) 1 1 (nI 0)) 1 2 (-1)) 1 3 (-1)) 1 4 (-1)) 1 5 (nI 0)) 1 6 (nI 0)) 1 7 (-1)) 5 (aFill (M 5) 4 (nI 0))) 6 (aFill (M 6) 4 (nI 0))) 10 (aFill (M 10) 2 (nI 0))) 3 7 (nI 0)) 3 8 (nI 0)) 3 9 (nI 4)) 3 10 (nI 0)) 3 11 (nI 0)) 12 (aFill (M 12) 12 (nI 0))) 11 1 (nI 0)) 12 = _
    simp (disch := decide) only [mW1_k, mW1_s, mW1_c, mUp_at, mUp_ne]
  refine hP M22 ⟨⟨c0_3, c0_4, c0_5, c0_6⟩, ⟨c1_1, c1_5, c1_6, c1_2, c1_3, c1_4, c1_7, fun j hj => ?_⟩, ⟨⟨c3_7, c3_8, c3_9, c3_10, c3_11⟩, fun j hj => absurd hj (Nat.not_lt_zero _), fun j hj => ?_, fun j hj => ?_, fun i hi => absurd hi (Nat.not_lt_zero _), fun i hi => absurd hi (Nat.not_succ_le_zero _), ?_, ?_⟩, ⟨c11_1, fun q hq => (by cases hq), fun j hj => ?_⟩⟩
  · show M22 2 _ = _
    rw [a2]
    exact if_pos hj
  · show M22 5 _ = _
    rw [a5]
    exact if_pos hj
  · show M22 6 _ = _
    rw [a6]
    exact (if_pos hj).trans (aHd_nil (dl := fun _ => 0) (q := j)).symm
  · show M22 10 _ = _
    rw [a10]
    exact if_pos (by decide)
  · show M22 10 _ = _
    rw [a10]
    exact if_pos (by decide)
  · show M22 12 _ = _
    rw [a12]
    exact if_pos hj
theorem ok_yX5_clear : xOK tSH yX5_clear cX5_clear 1 (none) 3 t_yX5_clear := xOK.of f_yX5_clear (by decide) (fun _ => rfl) (fun g => mCodeOK kk_yX5_clear) (fun g => mFldL fk_RX5 rfl) (fun g idx v h => by cases h) (fun g idx v h => by cases h) (xCalL (l := l_yX5_clear) (List.forall_mem_cons.mpr ⟨xSite.V (idx := 48) ok_yX1_begin (fun _ h => h) (by decide) (by decide) rv_yX1_begin wc_X1_begin wk_RX5_48 wi_X1_begin wl_X1_begin wn_RX1 wd_X1_begin, List.forall_mem_cons.mpr ⟨xSite.V (idx := 52) ok_yX2_clear (fun _ h => h) (by decide) (by decide) rv_yX2_clear wc_X2_clear wk_RX5_52 wi_X2_clear wl_X2_clear wn_RX2 wd_X2_clear, List.forall_mem_cons.mpr ⟨xSite.V (idx := 53) ok_yX3_clear (fun _ h => h) (by decide) (by decide) rv_yX3_clear wc_X3_clear wk_RX5_53 wi_X3_clear wl_X3_clear wn_RX3 wd_X3_clear, fun _ h => absurd h List.not_mem_nil⟩⟩⟩) (fun _ => rfl)) run_yX5_clear
