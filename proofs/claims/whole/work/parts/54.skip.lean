/-! ===== CLASS Tape: skipping ===== -/
/-- byte i of a text; -1 behind it -/
def bA (t : List Int32) (i : Nat) : Int32 := t.getD i (-1)
def cB (c : Int32) : Bool := decide (c = nI 32) || decide (c = nI 10)
def cL (c : Int32) : Bool := decide (nI 97 ≤ c) && decide (c ≤ nI 122)
def cD (c : Int32) : Bool := decide (nI 48 ≤ c) && decide (c ≤ nI 57)
def sk (f : Int32 → Bool) (t : List Int32) : Nat → Nat → Nat
  | 0, i => i
  | n + 1, i => if f (bA t i) then sk f t n (i + 1) else i
/-- the first place from i on that f doesn't take -/
def skip (f : Int32 → Bool) (t : List Int32) (i : Nat) : Nat := sk f t (t.length - i) i
theorem sk_le {f : Int32 → Bool} {t : List Int32} : ∀ {n i : Nat}, i ≤ sk f t n i ∧ sk f t n i ≤ i + n
  | 0, i => ⟨Nat.le_refl _, Nat.le_refl _⟩
  | n + 1, i => by
    rw [sk]
    split
    · have := sk_le (f := f) (t := t) (n := n) (i := i + 1)
      omega
    · omega
theorem skip_le {f : Int32 → Bool} {t : List Int32} {i : Nat} (h : i ≤ t.length) : i ≤ skip f t i ∧ skip f t i ≤ t.length := by
  have := sk_le (f := f) (t := t) (n := t.length - i) (i := i)
  unfold skip
  omega
theorem skip_yes {f : Int32 → Bool} {t : List Int32} {i : Nat} (h : i < t.length) (k : f (bA t i) = true) : skip f t i = skip f t (i + 1) := by
  unfold skip
  rw [show t.length - i = (t.length - (i + 1)) + 1 by omega, sk, if_pos k]
theorem skip_no {f : Int32 → Bool} {t : List Int32} {i : Nat} (k : f (bA t i) = false) : skip f t i = i := by
  unfold skip
  cases t.length - i with
  | zero => rfl
  | succ n => rw [sk, if_neg (by rw [k]; decide)]
theorem skip_end {f : Int32 → Bool} {t : List Int32} {i : Nat} (h : t.length ≤ i) : skip f t i = i := by
  unfold skip
  rw [show t.length - i = 0 by omega]
  rfl
theorem skip_not {f : Int32 → Bool} {t : List Int32} : ∀ {n i : Nat}, n = t.length - i → i ≤ t.length → f (bA t (skip f t i)) = false ∨ skip f t i = t.length
  | 0, i, h, hi => by
    rw [skip_end (by omega)]
    exact Or.inr (by omega)
  | n + 1, i, h, hi => by
    cases hf : f (bA t i) with
    | false =>
      rw [skip_no hf]
      exact Or.inl hf
    | true =>
      rw [skip_yes (by omega) hf]
      exact skip_not (n := n) (by omega) (by omega)
theorem skip_in {f : Int32 → Bool} {t : List Int32} : ∀ {n i : Nat}, n = t.length - i → ∀ j, i ≤ j → j < skip f t i → f (bA t j) = true
  | 0, i, h, j, h1, h2 => by
    rw [skip_end (by omega)] at h2
    omega
  | n + 1, i, h, j, h1, h2 => by
    cases hf : f (bA t i) with
    | false =>
      rw [skip_no hf] at h2
      omega
    | true =>
      rw [skip_yes (by omega) hf] at h2
      by_cases e : j = i
      · rw [e]
        exact hf
      · exact skip_in (n := n) (by omega) j (by omega) h2
theorem bA_end {t : List Int32} {i : Nat} (h : t.length ≤ i) : bA t i = -1 := by
  unfold bA
  rw [List.getD_eq_getElem?_getD, List.getElem?_eq_none h]
  rfl
theorem bA_in {t : List Int32} {i : Nat} (h : i < t.length) : t.getD i 0 = bA t i := by
  unfold bA
  rw [List.getD_eq_getElem?_getD, List.getD_eq_getElem?_getD, List.getElem?_eq_getElem h]
  rfl
/-- the tape's cells but its place are as they were -/
def TpF (M M' : mM) (p : Nat) : Prop := (∀ c, c ≠ 1 → M' c = M c) ∧ (∀ k, k ≠ 2 → M' 1 k = M 1 k) ∧ M' 1 2 = nI p
theorem TpF.tape {M M' : mM} {p : Nat} {t : List Int32} (h : TpF M M' p) (k : RpTp M t) : RpTp M' t := by
  unfold RpTp
  rw [h.1 2 (by decide), h.2.1 1 (by decide)]
  exact k
theorem tape_at {M : mM} {t : List Int32} (h : RpTp M t) (hl : t.length ≤ 40) {i : Nat} (hi : i < t.length) : aAt (M 2) 40 (nI i) = bA t i := by
  rw [aAt_in (by omega) (by decide), h.2 i hi, bA_in hi]
theorem TpF.step {M0 M : mM} {p : Nat} (h : TpF M0 M p) : TpF M0 (mW1 M 1 2 (M 1 2 + nI 1)) (p + 1) :=
  ⟨fun c hc => (mW1_c hc).trans (h.1 c hc), fun k hk => (mW1_k hk).trans (h.2.1 k hk), by rw [mW1_s, h.2.2, nI_add]⟩
theorem TpF.refl {M : mM} {p : Nat} (h : M 1 2 = nI p) : TpF M M p := ⟨fun _ _ => rfl, fun _ _ => rfl, h⟩
def pre_X6_isBetween (q : List Int32 × Nat × Int32 × Int32) (as : List mV) (M : mM) : Prop := as = [.inr (some 1), .inl q.2.2.1, .inl q.2.2.2] ∧ RpTp M q.1 ∧ q.1.length ≤ 40 ∧ M 1 2 = nI q.2.1 ∧ q.2.1 < q.1.length
def post_X6_isBetween (q : List Int32 × Nat × Int32 × Int32) (_ : List mV) (M : mM) (v : Int32) (M' : mM) : Prop := v = mb (q.2.2.1 ≤ bA q.1 q.2.1 ∧ bA q.1 q.2.1 ≤ q.2.2.2) ∧ M' = M
abbrev t_X6_isBetween : mG → mT := mRi pre_X6_isBetween post_X6_isBetween
theorem mo_X6_isBetween : mMn t_X6_isBetween := mRi_mono
theorem rv_X6_isBetween : mHasR yX6_isBetween 2 t_X6_isBetween := by
  intro g as M P hT hl
  obtain ⟨q, ⟨h2, -⟩, -⟩ := hT
  exact ⟨_, _, h2, is_X6 g _ rfl⟩
def k_X6_isBetween : List (Nat × mI) := [(0, .aload_n 0, 1, 0, 0, []),
  (1, .getfield 9, 3, 0, 0, []),
  (4, .aload_n 0, 1, 0, 0, []),
  (5, .getfield 23, 3, 0, 0, []),
  (8, .invokestatic 69, 3, 0, 0, []),
  (11, .istore_n 3, 1, 3, 0, []),
  (12, .iload_n 3, 1, 3, 0, []),
  (13, .iload_n 1, 1, 1, 0, []),
  (14, .if_icmp .lt 12, 3, 26, 0, []),
  (17, .iload_n 3, 1, 3, 0, []),
  (18, .iload_n 2, 1, 2, 0, []),
  (19, .if_icmp .gt 7, 3, 26, 0, []),
  (22, .iconst 1, 1, 0, nI 1, []),
  (23, .goto 4, 3, 27, 0, []),
  (26, .iconst 0, 1, 0, nI 0, []),
  (27, .ireturn, 1, 0, 0, [])]
theorem kk_X6_isBetween : (k_X6_isBetween.all fun e => mChk cX6_isBetween e.1 e.2) = true := by decide +kernel
def l_X6_isBetween : List (Nat × Nat × (mG → mT)) := [(3 * 69 + 1, 2, t_X7_at)]
def f_X6_isBetween (g : mG) : mF := (mLk k_X6_isBetween, mLk fl_RX6, mLk (l_X6_isBetween.map fun e => (e.1, e.2.1, e.2.2 g)), mLk ([] : List (Nat × mV)), mLk ([] : List (Nat × mV)), some .boolean)
theorem m_X6_isBetween (g : mG) : mMono (f_X6_isBetween g) := mMonoL (g := g) (l := l_X6_isBetween) (List.forall_mem_cons.mpr ⟨mo_X7_at, fun _ h => absurd h List.not_mem_nil⟩) rfl

theorem v_ib (g : mG) (M : mM) (P : mP) (x y : Int32)
    (h : ((aAt (M 2) 40 (M 1 2)) < x → ((nI 0) = 0 ∨ (nI 0) = 1) ∧ P (some (.inl (nI 0))) M) ∧ (¬ ((aAt (M 2) 40 (M 1 2)) < x) → (y < (aAt (M 2) 40 (M 1 2)) → ((nI 0) = 0 ∨ (nI 0) = 1) ∧ P (some (.inl (nI 0))) M) ∧ (¬ (y < (aAt (M 2) 40 (M 1 2))) → ((nI 1) = 0 ∨ (nI 1) = 1) ∧ P (some (.inl (nI 1))) M))) :
    mRun (mSx g) (f_X6_isBetween g) P (0, [some (.inr (some 1)), some (.inl x), some (.inl y), none], [], M) := mRun.vc (m_X6_isBetween g) [] 15 h

theorem run_X6_isBetween : mRunOf 4 t_X6_isBetween f_X6_isBetween := fun g as M P hT => by
  obtain ⟨⟨t, i, x, y⟩, ⟨rfl, h2, h3, h4, h5⟩, hP⟩ := hT
  refine ⟨Nat.le_of_ble_eq_true rfl, v_ib g M P x y ?_⟩
  dsimp only at h2 h3 h4 h5
  rw [h4, tape_at h2 h3 h5]
  have hQ : ∀ v, v = mb (x ≤ bA t i ∧ bA t i ≤ y) → P (some (.inl v)) M := fun v e => hP v M ⟨e, rfl⟩
  refine ⟨fun w => ⟨Or.inl rfl, hQ _ (mb_f (fun z => absurd w (Int32.not_lt.mpr z.1))).symm⟩, fun w => ⟨fun w2 => ⟨Or.inl rfl, hQ _ (mb_f (fun z => absurd w2 (Int32.not_lt.mpr z.2))).symm⟩, fun w2 => ⟨Or.inr rfl, hQ _ (mb_t ⟨Int32.not_lt.mp w, Int32.not_lt.mp w2⟩).symm⟩⟩⟩
theorem ok_X6_isBetween : mOK yX6_isBetween cX6_isBetween 4 (some .boolean) 2 t_X6_isBetween := mOK.of f_X6_isBetween (by decide) (fun _ => rfl) (fun g => mCodeOK kk_X6_isBetween) (fun g => mFldL fk_RX6 rfl) (fun g idx v h => by cases h) (fun g idx v h => by cases h) (mCalL (l := l_X6_isBetween) (List.forall_mem_cons.mpr ⟨mSite.SN (idx := 69) ok_X7_at (by decide) (by decide) wc_X7_at wm_RX6_69 wt_X7_at wn_RX7 wd_X7_at, fun _ h => absurd h List.not_mem_nil⟩) (fun _ => rfl)) run_X6_isBetween

def pre_X6_skipBlanks (q : List Int32 × Nat) (as : List mV) (M : mM) : Prop := as = [.inr (some 1)] ∧ RpTp M q.1 ∧ q.1.length ≤ 40 ∧ M 1 2 = nI q.2 ∧ q.2 ≤ q.1.length
def post_X6_skipBlanks (q : List Int32 × Nat) (_ : List mV) (M : mM) (M' : mM) : Prop := TpF M M' (skip cB q.1 q.2)
abbrev t_X6_skipBlanks : mG → mT := mRv pre_X6_skipBlanks post_X6_skipBlanks
theorem mo_X6_skipBlanks : mMn t_X6_skipBlanks := mRv_mono
theorem rv_X6_skipBlanks : mHasR yX6_skipBlanks 0 t_X6_skipBlanks := by
  intro g as M P hT hl
  obtain ⟨q, ⟨h2, -⟩, -⟩ := hT
  exact ⟨_, _, h2, is_X6 g _ rfl⟩
def k_X6_skipBlanks : List (Nat × mI) := [(0, .aload_n 0, 1, 0, 0, []),
  (1, .getfield 23, 3, 0, 0, []),
  (4, .aload_n 0, 1, 0, 0, []),
  (5, .getfield 15, 3, 0, 0, []),
  (8, .if_icmp .ge 48, 3, 56, 0, []),
  (11, .aload_n 0, 1, 0, 0, []),
  (12, .getfield 9, 3, 0, 0, []),
  (15, .aload_n 0, 1, 0, 0, []),
  (16, .getfield 23, 3, 0, 0, []),
  (19, .invokestatic 69, 3, 0, 0, []),
  (22, .bipush 32, 2, 0, nI 32, []),
  (24, .if_icmp .eq 19, 3, 43, 0, []),
  (27, .aload_n 0, 1, 0, 0, []),
  (28, .getfield 9, 3, 0, 0, []),
  (31, .aload_n 0, 1, 0, 0, []),
  (32, .getfield 23, 3, 0, 0, []),
  (35, .invokestatic 69, 3, 0, 0, []),
  (38, .bipush 10, 2, 0, nI 10, []),
  (40, .if_icmp .ne 16, 3, 56, 0, []),
  (43, .aload_n 0, 1, 0, 0, []),
  (44, .dup, 1, 0, 0, []),
  (45, .getfield 23, 3, 0, 0, []),
  (48, .iconst 1, 1, 0, nI 1, []),
  (49, .iadd, 1, 0, 0, []),
  (50, .putfield 23, 3, 0, 0, []),
  (53, .goto (-53), 3, 0, 0, []),
  (56, .return_, 1, 0, 0, [])]
theorem kk_X6_skipBlanks : (k_X6_skipBlanks.all fun e => mChk cX6_skipBlanks e.1 e.2) = true := by decide +kernel
def l_X6_skipBlanks : List (Nat × Nat × (mG → mT)) := [(3 * 69 + 1, 2, t_X7_at)]
def f_X6_skipBlanks (g : mG) : mF := (mLk k_X6_skipBlanks, mLk fl_RX6, mLk (l_X6_skipBlanks.map fun e => (e.1, e.2.1, e.2.2 g)), mLk ([] : List (Nat × mV)), mLk ([] : List (Nat × mV)), none)
theorem m_X6_skipBlanks (g : mG) : mMono (f_X6_skipBlanks g) := mMonoL (g := g) (l := l_X6_skipBlanks) (List.forall_mem_cons.mpr ⟨mo_X7_at, fun _ h => absurd h List.not_mem_nil⟩) rfl

theorem v_skipBlanks (g : mG) (M : mM) (P : mP) 
    (h : ((M 1 1) ≤ (M 1 2) → P none M) ∧ (¬ ((M 1 1) ≤ (M 1 2)) → ((aAt (M 2) 40 (M 1 2)) = (nI 32) → let M3 : mM := mW1 M 1 2 ((M 1 2) + (nI 1)); mRun (mSx g) (f_X6_skipBlanks g) P (0, [some (.inr (some 1))], [], M3)) ∧ (¬ ((aAt (M 2) 40 (M 1 2)) = (nI 32)) → (¬ (aAt (M 2) 40 (M 1 2)) = (nI 10) → P none M) ∧ (¬ (¬ (aAt (M 2) 40 (M 1 2)) = (nI 10)) → let M5 : mM := mW1 M 1 2 ((M 1 2) + (nI 1)); mRun (mSx g) (f_X6_skipBlanks g) P (0, [some (.inr (some 1))], [], M5))))) :
    mRun (mSx g) (f_X6_skipBlanks g) P (0, [some (.inr (some 1))], [], M) := mRun.vc (m_X6_skipBlanks g) [0] 27 h

theorem skipBlanks_loop (g : mG) (P : mP) (t : List Int32) (ht : t.length ≤ 40) (M0 : mM) (p0 : Nat) (hT : RpTp M0 t) (hP : ∀ M', TpF M0 M' (skip cB t p0) → P none M') :
    ∀ (j i : Nat) (M : mM), i + j = t.length → TpF M0 M i → skip cB t i = skip cB t p0 → mRun (mSx g) (f_X6_skipBlanks g) P (0, [some (.inr (some 1))], [], M) := by
  intro j
  induction j with
  | zero =>
    intro i M h hF hs
    rw [skip_end (by omega)] at hs
    rw [← hs] at hP
    refine v_skipBlanks g M P ?_
    rw [hF.2.2, hF.2.1 1 (by decide), hT.1]
    exact ⟨fun _ => hP M hF, fun w => absurd (nI_le (by omega) (by omega)) w⟩
  | succ j ih =>
    intro i M h hF hs
    have hT1 := hF.tape hT
    refine v_skipBlanks g M P ?_
    rw [hF.2.1 1 (by decide), hT.1]
    have hst := hF.step
    rw [hF.2.2] at hst ⊢
    have hno : cB (bA t i) = false → P none M := fun w => by
      rw [skip_no w] at hs
      rw [← hs] at hP
      exact hP M hF
    have hyes : cB (bA t i) = true → mRun (mSx g) (f_X6_skipBlanks g) P (0, [some (.inr (some 1))], [], mW1 M 1 2 (nI i + nI 1)) := fun w => ih (i + 1) _ (by omega) hst (by rw [← hs]; exact (skip_yes (by omega) w).symm)
    refine ⟨fun w => absurd w (nI_ge (by omega) (by omega)), fun _ => ?_⟩
    rw [tape_at hT1 ht (by omega)]
    refine ⟨fun w => hyes (by unfold cB; simp [w]), fun w => ⟨fun w2 => hno (by unfold cB; simp [w, w2]), fun w2 => hyes (by unfold cB; simp [Classical.not_not.mp w2])⟩⟩
theorem run_X6_skipBlanks : mRunOf 1 t_X6_skipBlanks f_X6_skipBlanks := fun g as M P hT => by
  obtain ⟨⟨t, i⟩, ⟨rfl, h2, h3, h4, h5⟩, hP⟩ := hT
  dsimp only at h2 h3 h4 h5
  exact ⟨Nat.le_of_ble_eq_true rfl, skipBlanks_loop g P t h3 M i h2 (fun M' h => hP M' h) (t.length - i) i M (by omega) (TpF.refl h4) rfl⟩
theorem ok_X6_skipBlanks : mOK yX6_skipBlanks cX6_skipBlanks 1 (none) 2 t_X6_skipBlanks := mOK.of f_X6_skipBlanks (by decide) (fun _ => rfl) (fun g => mCodeOK kk_X6_skipBlanks) (fun g => mFldL fk_RX6 rfl) (fun g idx v h => by cases h) (fun g idx v h => by cases h) (mCalL (l := l_X6_skipBlanks) (List.forall_mem_cons.mpr ⟨mSite.SN (idx := 69) ok_X7_at (by decide) (by decide) wc_X7_at wm_RX6_69 wt_X7_at wn_RX7 wd_X7_at, fun _ h => absurd h List.not_mem_nil⟩) (fun _ => rfl)) run_X6_skipBlanks

def pre_X6_skipLetters (q : List Int32 × Nat) (as : List mV) (M : mM) : Prop := as = [.inr (some 1)] ∧ RpTp M q.1 ∧ q.1.length ≤ 40 ∧ M 1 2 = nI q.2 ∧ q.2 ≤ q.1.length
def post_X6_skipLetters (q : List Int32 × Nat) (_ : List mV) (M : mM) (M' : mM) : Prop := TpF M M' (skip cL q.1 q.2)
abbrev t_X6_skipLetters : mG → mT := mRv pre_X6_skipLetters post_X6_skipLetters
theorem mo_X6_skipLetters : mMn t_X6_skipLetters := mRv_mono
theorem rv_X6_skipLetters : mHasR yX6_skipLetters 0 t_X6_skipLetters := by
  intro g as M P hT hl
  obtain ⟨q, ⟨h2, -⟩, -⟩ := hT
  exact ⟨_, _, h2, is_X6 g _ rfl⟩
def k_X6_skipLetters : List (Nat × mI) := [(0, .aload_n 0, 1, 0, 0, []),
  (1, .getfield 23, 3, 0, 0, []),
  (4, .aload_n 0, 1, 0, 0, []),
  (5, .getfield 15, 3, 0, 0, []),
  (8, .if_icmp .ge 27, 3, 35, 0, []),
  (11, .aload_n 0, 1, 0, 0, []),
  (12, .bipush 97, 2, 0, nI 97, []),
  (14, .bipush 122, 2, 0, nI 122, []),
  (16, .invokevirtual 65, 3, 0, 0, []),
  (19, .ifCond .eq 16, 3, 35, 0, []),
  (22, .aload_n 0, 1, 0, 0, []),
  (23, .dup, 1, 0, 0, []),
  (24, .getfield 23, 3, 0, 0, []),
  (27, .iconst 1, 1, 0, nI 1, []),
  (28, .iadd, 1, 0, 0, []),
  (29, .putfield 23, 3, 0, 0, []),
  (32, .goto (-32), 3, 0, 0, []),
  (35, .return_, 1, 0, 0, [])]
theorem kk_X6_skipLetters : (k_X6_skipLetters.all fun e => mChk cX6_skipLetters e.1 e.2) = true := by decide +kernel
def l_X6_skipLetters : List (Nat × Nat × (mG → mT)) := [(3 * 65, 2 + 1, t_X6_isBetween)]
def f_X6_skipLetters (g : mG) : mF := (mLk k_X6_skipLetters, mLk fl_RX6, mLk (l_X6_skipLetters.map fun e => (e.1, e.2.1, e.2.2 g)), mLk ([] : List (Nat × mV)), mLk ([] : List (Nat × mV)), none)
theorem m_X6_skipLetters (g : mG) : mMono (f_X6_skipLetters g) := mMonoL (g := g) (l := l_X6_skipLetters) (List.forall_mem_cons.mpr ⟨mo_X6_isBetween, fun _ h => absurd h List.not_mem_nil⟩) rfl

theorem v_skipLetters (g : mG) (M : mM) (P : mP) 
    (h : ((M 1 1) ≤ (M 1 2) → P none M) ∧ (¬ ((M 1 1) ≤ (M 1 2)) → ∃ x2 : List Int32 × Nat × Int32 × Int32, pre_X6_isBetween x2 [.inr (some 1), .inl (nI 97), .inl (nI 122)] M ∧ ∀ (r4 : Int32) (M3 : mM), post_X6_isBetween x2 [.inr (some 1), .inl (nI 97), .inl (nI 122)] M r4 M3 → ((r4 = 0 → P none M3) ∧ (¬ (r4 = 0) → let M6 : mM := mW1 M3 1 2 ((M3 1 2) + (nI 1)); mRun (mSx g) (f_X6_skipLetters g) P (0, [some (.inr (some 1))], [], M6))))) :
    mRun (mSx g) (f_X6_skipLetters g) P (0, [some (.inr (some 1))], [], M) := mRun.vc (m_X6_skipLetters g) [0] 18 h

theorem skipLetters_loop (g : mG) (P : mP) (t : List Int32) (ht : t.length ≤ 40) (M0 : mM) (p0 : Nat) (hT : RpTp M0 t) (hP : ∀ M', TpF M0 M' (skip cL t p0) → P none M') :
    ∀ (j i : Nat) (M : mM), i + j = t.length → TpF M0 M i → skip cL t i = skip cL t p0 → mRun (mSx g) (f_X6_skipLetters g) P (0, [some (.inr (some 1))], [], M) := by
  intro j
  induction j with
  | zero =>
    intro i M h hF hs
    rw [skip_end (by omega)] at hs
    rw [← hs] at hP
    refine v_skipLetters g M P ?_
    rw [hF.2.2, hF.2.1 1 (by decide), hT.1]
    exact ⟨fun _ => hP M hF, fun w => absurd (nI_le (by omega) (by omega)) w⟩
  | succ j ih =>
    intro i M h hF hs
    have hT1 := hF.tape hT
    refine v_skipLetters g M P ?_
    rw [hF.2.1 1 (by decide), hT.1]
    have hst := hF.step
    rw [hF.2.2] at hst ⊢
    have hno : cL (bA t i) = false → P none M := fun w => by
      rw [skip_no w] at hs
      rw [← hs] at hP
      exact hP M hF
    have hyes : cL (bA t i) = true → mRun (mSx g) (f_X6_skipLetters g) P (0, [some (.inr (some 1))], [], mW1 M 1 2 (nI i + nI 1)) := fun w => ih (i + 1) _ (by omega) hst (by rw [← hs]; exact (skip_yes (by omega) w).symm)
    refine ⟨fun w => absurd w (nI_ge (by omega) (by omega)), fun _ => ⟨(t, i, nI 97, nI 122), ⟨rfl, hT1, ht, hF.2.2, by show i < t.length; omega⟩, fun r M2 hr => ?_⟩⟩
    obtain ⟨hr1, rfl⟩ := hr
    have hr2 : r = mb (nI 97 ≤ bA t i ∧ bA t i ≤ nI 122) := hr1
    rw [hr2, mb_0, hF.2.2]
    refine ⟨fun w => hno ?_, fun w => hyes ?_⟩
    · unfold cL
      rw [← Bool.decide_and]
      exact decide_eq_false w
    · unfold cL
      rw [← Bool.decide_and]
      exact decide_eq_true (Classical.not_not.mp w)
theorem run_X6_skipLetters : mRunOf 1 t_X6_skipLetters f_X6_skipLetters := fun g as M P hT => by
  obtain ⟨⟨t, i⟩, ⟨rfl, h2, h3, h4, h5⟩, hP⟩ := hT
  dsimp only at h2 h3 h4 h5
  exact ⟨Nat.le_of_ble_eq_true rfl, skipLetters_loop g P t h3 M i h2 (fun M' h => hP M' h) (t.length - i) i M (by omega) (TpF.refl h4) rfl⟩
theorem ok_X6_skipLetters : mOK yX6_skipLetters cX6_skipLetters 1 (none) 3 t_X6_skipLetters := mOK.of f_X6_skipLetters (by decide) (fun _ => rfl) (fun g => mCodeOK kk_X6_skipLetters) (fun g => mFldL fk_RX6 rfl) (fun g idx v h => by cases h) (fun g idx v h => by cases h) (mCalL (l := l_X6_skipLetters) (List.forall_mem_cons.mpr ⟨mSite.V (idx := 65) ok_X6_isBetween (by decide) (by decide) rv_X6_isBetween wc_X6_isBetween wk_RX6_65 wi_X6_isBetween wl_X6_isBetween wn_RX6 wd_X6_isBetween, fun _ h => absurd h List.not_mem_nil⟩) (fun _ => rfl)) run_X6_skipLetters

