/-! ===== CLASS Tape: reading an act ===== -/
/-- a fault; or how far it is read: place, word, number, suit -/
abbrev aPs : Type := Nat ⊕ (Nat × Int32 × Int32 × Int32)
def TS (M0 M : mM) (t : List Int32) (s : aPs) : Prop := (∀ c, c ≠ 1 → M c = M0 c) ∧ M 1 1 = M0 1 1 ∧ match s with
  | .inl f => M 1 3 = nI f ∧ f ≤ t.length ∧ ∃ q, q ≤ t.length ∧ M 1 2 = nI q
  | .inr x => M 1 3 = -1 ∧ x.1 ≤ t.length ∧ M 1 2 = nI x.1 ∧ M 1 4 = x.2.1 ∧ M 1 5 = x.2.2.1 ∧ M 1 6 = x.2.2.2
/-- the number that n digits from place a on tell -/
def dV (t : List Int32) (a : Nat) : Nat → Nat
  | 0 => 0
  | n + 1 => dV t a n * 10 + (ub (bA t (a + n)) - 48)
def pNum (t : List Int32) (p : Nat) : Option (Nat × Nat) := if skip cD t (skip cB t p) = skip cB t p ∨ 6 < skip cD t (skip cB t p) - skip cB t p then none else some (dV t (skip cB t p) (skip cD t (skip cB t p) - skip cB t p), skip cD t (skip cB t p))
/-- the letter's suit below k -/
def ltr (c : Int32) : Nat → Option Nat
  | 0 => none
  | k + 1 => if c = fLetter (nI k) then some k else ltr c k
def pSuit (t : List Int32) (k p : Nat) : Option (Nat × Nat) := if skip cL t (skip cB t p) - skip cB t p = 1 then (ltr (bA t (skip cB t p)) k).map fun s => (s, skip cL t (skip cB t p)) else none
def pWord (t : List Int32) : Option Nat := fO (fun w => !dTx t w (skip cB t 0) (skip cL t (skip cB t 0))) 9 0
def sNum (t : List Int32) : aPs → aPs
  | .inl f => .inl f
  | .inr x => match pNum t x.1 with
    | none => .inl (skip cB t x.1)
    | some q => .inr (q.2, x.2.1, nI q.1, x.2.2.2)
def sSuit (t : List Int32) (k : Nat) : aPs → aPs
  | .inl f => .inl f
  | .inr x => match pSuit t k x.1 with
    | none => .inl (skip cB t x.1)
    | some q => .inr (q.2, x.2.1, x.2.2.1, nI q.1)
def sEnd (t : List Int32) : aPs → aPs
  | .inl f => .inl f
  | .inr x => if skip cB t x.1 < t.length then .inl (skip cB t x.1) else .inr (skip cB t x.1, x.2)
def sWord (t : List Int32) : aPs := match pWord t with
  | none => .inl (skip cB t 0)
  | some w => .inr (skip cL t (skip cB t 0), nI w, -1, -1)
theorem ne_m1 {n : Nat} (h : n < 2 ^ 31) : ¬ nI n = -1 := fun e => by
  rw [fa_eq, nI_toInt h, toInt_m1] at e
  omega
theorem TS_tape {M0 M M' : mM} {t : List Int32} {s : aPs} {q : Nat} (h : TS M0 M t s) (k : TpF M M' q) (hq : q ≤ t.length) : TS M0 M' t (match s with | .inl f => .inl f | .inr x => .inr (q, x.2)) := by
  obtain ⟨h1, h2, h3⟩ := h
  obtain ⟨k1, k2, k3⟩ := k
  refine ⟨fun c hc => (k1 c hc).trans (h1 c hc), (k2 1 (by decide)).trans h2, ?_⟩
  cases s with
  | inl f =>
    obtain ⟨a, b, -⟩ := h3
    exact ⟨(k2 3 (by decide)).trans a, b, q, hq, k3⟩
  | inr x =>
    obtain ⟨a, b, c, d, e, f⟩ := h3
    exact ⟨(k2 3 (by decide)).trans a, hq, k3, (k2 4 (by decide)).trans d, (k2 5 (by decide)).trans e, (k2 6 (by decide)).trans f⟩
theorem dV_lt {t : List Int32} {a : Nat} (h : ∀ j, cD (bA t (a + j)) = true ∨ True) : True := trivial
theorem cD_t {c : Int32} (h : cD c = true) : 48 ≤ ub c ∧ ub c ≤ 57 ∧ c = nI (ub c) := by
  unfold cD at h
  rw [Bool.and_eq_true, decide_eq_true_eq, decide_eq_true_eq] at h
  obtain ⟨j, hj, rfl⟩ := nI_of (x := c) (Int32.not_lt.mpr (Int32.le_trans (by decide) h.1))
  have h1 := (nI_leI (by decide) hj).mp h.1
  have h2 := (nI_leI hj (by decide)).mp h.2
  rw [ub_nI (by omega)]
  exact ⟨h1, h2, rfl⟩
theorem dV_le {t : List Int32} {a : Nat} : ∀ n, (∀ j, j < n → cD (bA t (a + j)) = true) → dV t a n < 10 ^ n
  | 0, _ => Nat.one_pos
  | n + 1, h => by
    have h1 := dV_le (t := t) (a := a) n (fun j hj => h j (by omega))
    have h2 := cD_t (h n (by omega))
    rw [dV, Nat.pow_succ]
    omega
def pre_X6_readEnd (q : mM × List Int32 × aPs) (as : List mV) (M : mM) : Prop := as = [.inr (some 1)] ∧ RpTp M q.2.1 ∧ q.2.1.length ≤ 40 ∧ TS q.1 M q.2.1 q.2.2
def post_X6_readEnd (q : mM × List Int32 × aPs) (_ : List mV) (_ : mM) (M' : mM) : Prop := TS q.1 M' q.2.1 (sEnd q.2.1 q.2.2)
abbrev t_X6_readEnd : mG → mT := mRv pre_X6_readEnd post_X6_readEnd
theorem mo_X6_readEnd : mMn t_X6_readEnd := mRv_mono
theorem rv_X6_readEnd : mHasR yX6_readEnd 0 t_X6_readEnd := by
  intro g as M P hT hl
  obtain ⟨q, ⟨h2, -⟩, -⟩ := hT
  exact ⟨_, _, h2, is_X6 g _ rfl⟩
def k_X6_readEnd : List (Nat × mI) := [(0, .aload_n 0, 1, 0, 0, []),
  (1, .invokevirtual 51, 3, 0, 0, []),
  (4, .aload_n 0, 1, 0, 0, []),
  (5, .getfield 26, 3, 0, 0, []),
  (8, .iconst (-1), 1, 0, -1, []),
  (9, .if_icmp .ne 22, 3, 31, 0, []),
  (12, .aload_n 0, 1, 0, 0, []),
  (13, .getfield 23, 3, 0, 0, []),
  (16, .aload_n 0, 1, 0, 0, []),
  (17, .getfield 15, 3, 0, 0, []),
  (20, .if_icmp .ge 11, 3, 31, 0, []),
  (23, .aload_n 0, 1, 0, 0, []),
  (24, .aload_n 0, 1, 0, 0, []),
  (25, .getfield 23, 3, 0, 0, []),
  (28, .putfield 26, 3, 0, 0, []),
  (31, .return_, 1, 0, 0, [])]
theorem kk_X6_readEnd : (k_X6_readEnd.all fun e => mChk cX6_readEnd e.1 e.2) = true := by decide +kernel
def l_X6_readEnd : List (Nat × Nat × (mG → mT)) := [(3 * 51, 0 + 1, t_X6_skipBlanks)]
def f_X6_readEnd (g : mG) : mF := (mLk k_X6_readEnd, mLk fl_RX6, mLk (l_X6_readEnd.map fun e => (e.1, e.2.1, e.2.2 g)), mLk ([] : List (Nat × mV)), mLk ([] : List (Nat × mV)), none)
theorem m_X6_readEnd (g : mG) : mMono (f_X6_readEnd g) := mMonoL (g := g) (l := l_X6_readEnd) (List.forall_mem_cons.mpr ⟨mo_X6_skipBlanks, fun _ h => absurd h List.not_mem_nil⟩) rfl

theorem v_re (g : mG) (M : mM) (P : mP) 
    (h : ∃ x1 : List Int32 × Nat, pre_X6_skipBlanks x1 [.inr (some 1)] M ∧ ∀ M2 : mM, post_X6_skipBlanks x1 [.inr (some 1)] M M2 → ((¬ (M2 1 3) = (-1) → P none M2) ∧ (¬ (¬ (M2 1 3) = (-1)) → ((M2 1 1) ≤ (M2 1 2) → P none M2) ∧ (¬ ((M2 1 1) ≤ (M2 1 2)) → let M5 : mM := mW1 M2 1 3 (M2 1 2); P none M5)))) :
    mRun (mSx g) (f_X6_readEnd g) P (0, [some (.inr (some 1))], [], M) := mRun.vc (m_X6_readEnd g) [] 16 h

theorem run_X6_readEnd : mRunOf 1 t_X6_readEnd f_X6_readEnd := fun g as M P hT => by
  obtain ⟨⟨M0, t, s⟩, ⟨rfl, h2, h3, h4⟩, hP⟩ := hT
  refine ⟨Nat.le_of_ble_eq_true rfl, ?_⟩
  dsimp only at h2 h3 h4
  cases s with
  | inl f =>
    have h4' := h4
    obtain ⟨a1, a2, a3, a4, q, hq, a5⟩ := h4
    refine v_re g M P ⟨(t, q), ⟨rfl, h2, h3, a5, hq⟩, fun M2 k => ?_⟩
    have k' : TpF M M2 (skip cB t q) := k
    have hs := TS_tape h4' k' (skip_le hq).2
    have e3 : M2 1 3 = nI f := hs.2.2.1
    rw [e3]
    exact ⟨fun _ => hP M2 hs, fun w => absurd (Classical.not_not.mp w) (ne_m1 (by omega))⟩
  | inr x =>
    have h4' := h4
    obtain ⟨a1, a2, a3, a4, a5, -⟩ := h4
    refine v_re g M P ⟨(t, x.1), ⟨rfl, h2, h3, a5, a4⟩, fun M2 k => ?_⟩
    have k' : TpF M M2 (skip cB t x.1) := k
    have hsl := skip_le (f := cB) a4
    have hs := TS_tape h4' k' hsl.2
    have e3 : M2 1 3 = -1 := hs.2.2.1
    have e1 : M2 1 1 = nI t.length := (k'.2.1 1 (by decide)).trans h2.1
    rw [e3, e1, k'.2.2]
    refine ⟨fun w => absurd rfl w, fun _ => ⟨fun w => hP M2 ?_, fun w => ?_⟩⟩
    · have w' := (nI_leI (by omega) (by omega)).mp w
      show TS M0 M2 t (sEnd t (.inr x))
      rw [show sEnd t (.inr x) = .inr (skip cB t x.1, x.2) from if_neg (by omega)]
      exact hs
    · have w' : skip cB t x.1 < t.length := Nat.lt_of_not_le (fun y => w (nI_le y (by omega)))
      intro M7
      refine hP M7 ?_
      show TS M0 M7 t (sEnd t (.inr x))
      rw [show sEnd t (.inr x) = .inl (skip cB t x.1) from if_pos w']
      refine ⟨fun c hc => (mW1_c hc).trans (hs.1 c hc), (mW1_k (by decide)).trans hs.2.1, mW1_s, hsl.2, _, hsl.2, (mW1_k (by decide)).trans k'.2.2⟩
theorem ok_X6_readEnd : mOK yX6_readEnd cX6_readEnd 1 (none) 3 t_X6_readEnd := mOK.of f_X6_readEnd (by decide) (fun _ => rfl) (fun g => mCodeOK kk_X6_readEnd) (fun g => mFldL fk_RX6 rfl) (fun g idx v h => by cases h) (fun g idx v h => by cases h) (mCalL (l := l_X6_readEnd) (List.forall_mem_cons.mpr ⟨mSite.V (idx := 51) ok_X6_skipBlanks (by decide) (by decide) rv_X6_skipBlanks wc_X6_skipBlanks wk_RX6_51 wi_X6_skipBlanks wl_X6_skipBlanks wn_RX6 wd_X6_skipBlanks, fun _ h => absurd h List.not_mem_nil⟩) (fun _ => rfl)) run_X6_readEnd

def pre_X6_readNumber (q : mM × List Int32 × aPs) (as : List mV) (M : mM) : Prop := as = [.inr (some 1)] ∧ RpTp M q.2.1 ∧ q.2.1.length ≤ 40 ∧ TS q.1 M q.2.1 q.2.2
def post_X6_readNumber (q : mM × List Int32 × aPs) (_ : List mV) (_ : mM) (M' : mM) : Prop := TS q.1 M' q.2.1 (sNum q.2.1 q.2.2)
abbrev t_X6_readNumber : mG → mT := mRv pre_X6_readNumber post_X6_readNumber
theorem mo_X6_readNumber : mMn t_X6_readNumber := mRv_mono
theorem rv_X6_readNumber : mHasR yX6_readNumber 0 t_X6_readNumber := by
  intro g as M P hT hl
  obtain ⟨q, ⟨h2, -⟩, -⟩ := hT
  exact ⟨_, _, h2, is_X6 g _ rfl⟩
def k_X6_readNumber : List (Nat × mI) := [(0, .aload_n 0, 1, 0, 0, []),
  (1, .getfield 26, 3, 0, 0, []),
  (4, .iconst (-1), 1, 0, -1, []),
  (5, .if_icmp .eq 4, 3, 9, 0, []),
  (8, .return_, 1, 0, 0, []),
  (9, .aload_n 0, 1, 0, 0, []),
  (10, .invokevirtual 51, 3, 0, 0, []),
  (13, .aload_n 0, 1, 0, 0, []),
  (14, .getfield 23, 3, 0, 0, []),
  (17, .istore_n 1, 1, 1, 0, []),
  (18, .aload_n 0, 1, 0, 0, []),
  (19, .iconst 0, 1, 0, nI 0, []),
  (20, .putfield 29, 3, 0, 0, []),
  (23, .aload_n 0, 1, 0, 0, []),
  (24, .getfield 23, 3, 0, 0, []),
  (27, .aload_n 0, 1, 0, 0, []),
  (28, .getfield 15, 3, 0, 0, []),
  (31, .if_icmp .ge 71, 3, 102, 0, []),
  (34, .aload_n 0, 1, 0, 0, []),
  (35, .bipush 48, 2, 0, nI 48, []),
  (37, .bipush 57, 2, 0, nI 57, []),
  (39, .invokevirtual 65, 3, 0, 0, []),
  (42, .ifCond .eq 60, 3, 102, 0, []),
  (45, .aload_n 0, 1, 0, 0, []),
  (46, .aload_n 0, 1, 0, 0, []),
  (47, .getfield 23, 3, 0, 0, []),
  (50, .iload_n 1, 1, 1, 0, []),
  (51, .isub, 1, 0, 0, []),
  (52, .bipush 6, 2, 0, nI 6, []),
  (54, .if_icmp .ge 28, 3, 82, 0, []),
  (57, .aload_n 0, 1, 0, 0, []),
  (58, .getfield 29, 3, 0, 0, []),
  (61, .bipush 10, 2, 0, nI 10, []),
  (63, .imul, 1, 0, 0, []),
  (64, .aload_n 0, 1, 0, 0, []),
  (65, .getfield 9, 3, 0, 0, []),
  (68, .aload_n 0, 1, 0, 0, []),
  (69, .getfield 23, 3, 0, 0, []),
  (72, .invokestatic 69, 3, 0, 0, []),
  (75, .iadd, 1, 0, 0, []),
  (76, .bipush 48, 2, 0, nI 48, []),
  (78, .isub, 1, 0, 0, []),
  (79, .goto 7, 3, 86, 0, []),
  (82, .aload_n 0, 1, 0, 0, []),
  (83, .getfield 29, 3, 0, 0, []),
  (86, .putfield 29, 3, 0, 0, []),
  (89, .aload_n 0, 1, 0, 0, []),
  (90, .dup, 1, 0, 0, []),
  (91, .getfield 23, 3, 0, 0, []),
  (94, .iconst 1, 1, 0, nI 1, []),
  (95, .iadd, 1, 0, 0, []),
  (96, .putfield 23, 3, 0, 0, []),
  (99, .goto (-76), 3, 23, 0, []),
  (102, .aload_n 0, 1, 0, 0, []),
  (103, .getfield 23, 3, 0, 0, []),
  (106, .iload_n 1, 1, 1, 0, []),
  (107, .if_icmp .eq 14, 3, 121, 0, []),
  (110, .aload_n 0, 1, 0, 0, []),
  (111, .getfield 23, 3, 0, 0, []),
  (114, .iload_n 1, 1, 1, 0, []),
  (115, .isub, 1, 0, 0, []),
  (116, .bipush 6, 2, 0, nI 6, []),
  (118, .if_icmp .le 8, 3, 126, 0, []),
  (121, .aload_n 0, 1, 0, 0, []),
  (122, .iload_n 1, 1, 1, 0, []),
  (123, .putfield 26, 3, 0, 0, []),
  (126, .return_, 1, 0, 0, [])]
theorem kk_X6_readNumber : (k_X6_readNumber.all fun e => mChk cX6_readNumber e.1 e.2) = true := by decide +kernel
def l_X6_readNumber : List (Nat × Nat × (mG → mT)) := [(3 * 51, 0 + 1, t_X6_skipBlanks), (3 * 65, 2 + 1, t_X6_isBetween), (3 * 69 + 1, 2, t_X7_at)]
def f_X6_readNumber (g : mG) : mF := (mLk k_X6_readNumber, mLk fl_RX6, mLk (l_X6_readNumber.map fun e => (e.1, e.2.1, e.2.2 g)), mLk ([] : List (Nat × mV)), mLk ([] : List (Nat × mV)), none)
theorem m_X6_readNumber (g : mG) : mMono (f_X6_readNumber g) := mMonoL (g := g) (l := l_X6_readNumber) (List.forall_mem_cons.mpr ⟨mo_X6_skipBlanks, List.forall_mem_cons.mpr ⟨mo_X6_isBetween, List.forall_mem_cons.mpr ⟨mo_X7_at, fun _ h => absurd h List.not_mem_nil⟩⟩⟩) rfl

theorem v_rn_0 (g : mG) (M : mM) (P : mP) 
    (h : ((M 1 3) = (-1) → ∃ x2 : List Int32 × Nat, pre_X6_skipBlanks x2 [.inr (some 1)] M ∧ ∀ M3 : mM, post_X6_skipBlanks x2 [.inr (some 1)] M M3 → (let M4 : mM := mW1 M3 1 5 (nI 0); mRun (mSx g) (f_X6_readNumber g) P (23, [some (.inr (some 1)), some (.inl (M3 1 2))], [], M4))) ∧ (¬ ((M 1 3) = (-1)) → P none M)) :
    mRun (mSx g) (f_X6_readNumber g) P (0, [some (.inr (some 1)), none], [], M) := mRun.vc (m_X6_readNumber g) [23] 13 h

theorem v_rn_23 (g : mG) (M : mM) (P : mP) (a : Int32)
    (h : ((M 1 1) ≤ (M 1 2) → ((M 1 2) = a → let M3 : mM := mW1 M 1 3 a; P none M3) ∧ (¬ ((M 1 2) = a) → (((M 1 2) - a) ≤ (nI 6) → P none M) ∧ (¬ (((M 1 2) - a) ≤ (nI 6)) → let M5 : mM := mW1 M 1 3 a; P none M5))) ∧ (¬ ((M 1 1) ≤ (M 1 2)) → ∃ x6 : List Int32 × Nat × Int32 × Int32, pre_X6_isBetween x6 [.inr (some 1), .inl (nI 48), .inl (nI 57)] M ∧ ∀ (r8 : Int32) (M7 : mM), post_X6_isBetween x6 [.inr (some 1), .inl (nI 48), .inl (nI 57)] M r8 M7 → ((r8 = 0 → ((M7 1 2) = a → let M11 : mM := mW1 M7 1 3 a; P none M11) ∧ (¬ ((M7 1 2) = a) → (((M7 1 2) - a) ≤ (nI 6) → P none M7) ∧ (¬ (((M7 1 2) - a) ≤ (nI 6)) → let M13 : mM := mW1 M7 1 3 a; P none M13))) ∧ (¬ (r8 = 0) → ((nI 6) ≤ ((M7 1 2) - a) → let M15 : mM := mW1 M7 1 5 (M7 1 5); let M16 : mM := mW1 M15 1 2 ((M7 1 2) + (nI 1)); mRun (mSx g) (f_X6_readNumber g) P (23, [some (.inr (some 1)), some (.inl a)], [], M16)) ∧ (¬ ((nI 6) ≤ ((M7 1 2) - a)) → let M17 : mM := mW1 M7 1 5 ((((M7 1 5) * (nI 10)) + (aAt (M7 2) 40 (M7 1 2))) - (nI 48)); let M18 : mM := mW1 M17 1 2 ((M7 1 2) + (nI 1)); mRun (mSx g) (f_X6_readNumber g) P (23, [some (.inr (some 1)), some (.inl a)], [], M18)))))) :
    mRun (mSx g) (f_X6_readNumber g) P (23, [some (.inr (some 1)), some (.inl a)], [], M) := mRun.vc (m_X6_readNumber g) [23] 39 h

/-- as far as i the digits are read, from place a on -/
def NS (M0 M : mM) (x : Nat × Int32 × Int32 × Int32) (t : List Int32) (a i : Nat) : Prop := (∀ c, c ≠ 1 → M c = M0 c) ∧ M 1 1 = M0 1 1 ∧ M 1 3 = -1 ∧ M 1 2 = nI i ∧ M 1 4 = x.2.1 ∧ M 1 5 = nI (dV t a (min 6 (i - a))) ∧ M 1 6 = x.2.2.2
theorem rn_loop (g : mG) (P : mP) (M0 : mM) (t : List Int32) (x : Nat × Int32 × Int32 × Int32) (h2 : RpTp M0 t) (ht : t.length ≤ 40) (hx : x.1 ≤ t.length) (hP : ∀ M', TS M0 M' t (sNum t (.inr x)) → P none M') :
    ∀ (n i : Nat) (M : mM), i + n = t.length → skip cB t x.1 ≤ i → (∀ j, skip cB t x.1 ≤ j → j < i → cD (bA t j) = true) → skip cD t i = skip cD t (skip cB t x.1) → NS M0 M x t (skip cB t x.1) i → mRun (mSx g) (f_X6_readNumber g) P (23, [some (.inr (some 1)), some (.inl (nI (skip cB t x.1)))], [], M) := by
  have hsl := skip_le (f := cB) hx
  generalize ha : skip cB t x.1 = a at *
  -- the end
  have fin : ∀ (i : Nat) (M : mM), i ≤ t.length → a ≤ i → skip cD t i = i → skip cD t i = skip cD t a → NS M0 M x t a i →
      ((nI i = nI a → P none (mW1 M 1 3 (nI a))) ∧ (¬ nI i = nI a → (nI i - nI a ≤ nI 6 → P none M) ∧ (¬ nI i - nI a ≤ nI 6 → P none (mW1 M 1 3 (nI a))))) := by
    intro i M hi hai he hs hN
    obtain ⟨n1, n2, n3, n4, n5, n6, n7⟩ := hN
    rw [he] at hs
    have bad : (i = a ∨ 6 < i - a) → P none (mW1 M 1 3 (nI a)) := fun w => by
      refine hP _ ?_
      rw [show sNum t (.inr x) = .inl a by
        unfold sNum pNum
        dsimp only
        rw [ha, ← hs, if_pos w]]
      exact ⟨fun c hc => (mW1_c hc).trans (n1 c hc), (mW1_k (by decide)).trans n2, mW1_s, hsl.2, i, hi, (mW1_k (by decide)).trans n4⟩
    rw [nI_eq (by omega) (by omega), pk_sub hai]
    refine ⟨fun w => bad (Or.inl w), fun w => ⟨fun w2 => hP _ ?_, fun w2 => bad (Or.inr (Nat.lt_of_not_le (fun y => w2 (nI_le y (by decide)))))⟩⟩
    have w2' := (nI_leI (by omega) (by decide)).mp w2
    rw [show sNum t (.inr x) = .inr (i, x.2.1, nI (dV t a (i - a)), x.2.2.2) by
        unfold sNum pNum
        dsimp only
        rw [ha, ← hs, if_neg (fun y => y.elim w (fun z => by omega))]]
    refine ⟨n1, n2, n3, hi, n4, n5, ?_, n7⟩
    rw [n6, Nat.min_eq_right w2']
  intro n
  induction n with
  | zero =>
    intro i M h hai hd hs hN
    obtain ⟨n1, n2, n3, n4, n5, n6, n7⟩ := hN
    refine v_rn_23 g M P _ ?_
    rw [n4, n2, h2.1]
    refine ⟨fun _ => fin i M (by omega) hai (skip_end (by omega)) hs ⟨n1, n2, n3, n4, n5, n6, n7⟩, fun w => absurd (nI_le (by omega) (by omega)) w⟩
  | succ n ih =>
    intro i M h hai hd hs hN
    have hN' := hN
    obtain ⟨n1, n2, n3, n4, n5, n6, n7⟩ := hN
    have hT1 : RpTp M t := by
      unfold RpTp
      rw [n2, n1 2 (by decide)]
      exact h2
    refine v_rn_23 g M P _ ?_
    rw [n4, n2, h2.1]
    refine ⟨fun w => absurd w (nI_ge (by omega) (by omega)), fun _ => ⟨(t, i, nI 48, nI 57), ⟨rfl, hT1, ht, n4, by show i < t.length; omega⟩, fun r M2 hr => ?_⟩⟩
    obtain ⟨hr1, rfl⟩ := hr
    have hr2 : r = mb (nI 48 ≤ bA t i ∧ bA t i ≤ nI 57) := hr1
    rw [hr2, mb_0, n4, n6]
    refine ⟨fun w => ?_, fun w => ?_⟩
    · have hno : cD (bA t i) = false := by
        unfold cD
        rw [← Bool.decide_and]
        exact decide_eq_false w
      exact fin i M2 (by omega) hai (skip_no hno) hs hN'
    · have hyes : cD (bA t i) = true := by
        unfold cD
        rw [← Bool.decide_and]
        exact decide_eq_true (Classical.not_not.mp w)
      have hd' : ∀ j, a ≤ j → j < i + 1 → cD (bA t j) = true := fun j h1 h2 => by
        by_cases e : j = i
        · rw [e]
          exact hyes
        · exact hd j h1 (by omega)
      have hs' : skip cD t (i + 1) = skip cD t a := (skip_yes (by omega) hyes).symm.trans hs
      rw [pk_sub hai]
      have put : ∀ v, v = nI (dV t a (min 6 (i + 1 - a))) → mRun (mSx g) (f_X6_readNumber g) P (23, [some (.inr (some 1)), some (.inl (nI a))], [], mW1 (mW1 M2 1 5 v) 1 2 (nI i + nI 1)) := fun v hv => by
        refine ih (i + 1) _ (by omega) (by omega) hd' hs' ⟨fun c hc => ?_, ?_, ?_, ?_, ?_, ?_, ?_⟩
        · rw [mW1_c hc, mW1_c hc]
          exact n1 c hc
        · rw [mW1_k (by decide), mW1_k (by decide)]
          exact n2
        · rw [mW1_k (by decide), mW1_k (by decide)]
          exact n3
        · rw [mW1_s, nI_add]
        · rw [mW1_k (by decide), mW1_k (by decide)]
          exact n5
        · rw [mW1_k (by decide), mW1_s]
          exact hv
        · rw [mW1_k (by decide), mW1_k (by decide)]
          exact n7
      have q := cD_t hyes
      refine ⟨fun w2 => ?_, fun w2 => ?_⟩
      · have w2' := (nI_leI (by decide) (by omega)).mp w2
        refine put _ ?_
        rw [show min 6 (i + 1 - a) = min 6 (i - a) by omega]
      · have w2' : ¬ 6 ≤ i - a := fun y => w2 (nI_le y (by omega))
        refine put _ ?_
        rw [show min 6 (i + 1 - a) = min 6 (i - a) + 1 by omega, dV, show a + min 6 (i - a) = i by omega, tape_at hT1 ht (by omega), q.2.2, pk_mul, nI_add, pk_sub (by omega), ub_nI (by omega)]
        congr 1
        omega
theorem run_X6_readNumber : mRunOf 2 t_X6_readNumber f_X6_readNumber := fun g as M P hT => by
  obtain ⟨⟨M0, t, s⟩, ⟨rfl, h2, h3, h4⟩, hP⟩ := hT
  refine ⟨Nat.le_of_ble_eq_true rfl, ?_⟩
  dsimp only at h2 h3 h4
  have h4' := h4
  cases s with
  | inl f =>
    obtain ⟨a1, a2, a3, a4, q, hq, a5⟩ := h4
    refine v_rn_0 g M P ?_
    rw [a3]
    exact ⟨fun w => absurd w (ne_m1 (by omega)), fun _ => hP M h4'⟩
  | inr x =>
    obtain ⟨a1, a2, a3, a4, a5, a6, a7, a8⟩ := h4
    have hsl := skip_le (f := cB) a4
    refine v_rn_0 g M P ?_
    rw [a3]
    refine ⟨fun _ => ⟨(t, x.1), ⟨rfl, h2, h3, a5, a4⟩, fun M2 k => ?_⟩, fun w => absurd rfl w⟩
    have k' : TpF M M2 (skip cB t x.1) := k
    obtain ⟨k1, k2, k3⟩ := k'
    rw [k3]
    intro M4
    have e0 : min 6 (skip cB t x.1 - skip cB t x.1) = 0 := by rw [Nat.sub_self]; rfl
    have hM0 : RpTp M0 t := by
      unfold RpTp
      rw [← a2, ← a1 2 (by decide)]
      exact h2
    refine rn_loop g P M0 t x hM0 h3 a4 (fun M' h => hP M' h) (t.length - skip cB t x.1) (skip cB t x.1) M4 (by omega) (Nat.le_refl _) (fun j h1 h2 => by omega) rfl ⟨fun c hc => ?_, ?_, ?_, ?_, ?_, ?_, ?_⟩
    · exact (mW1_c hc).trans ((k1 c hc).trans (a1 c hc))
    · exact (mW1_k (by decide)).trans ((k2 1 (by decide)).trans a2)
    · exact (mW1_k (by decide)).trans ((k2 3 (by decide)).trans a3)
    · exact (mW1_k (by decide)).trans k3
    · exact (mW1_k (by decide)).trans ((k2 4 (by decide)).trans a6)
    · rw [e0]
      exact mW1_s
    · exact (mW1_k (by decide)).trans ((k2 6 (by decide)).trans a8)
theorem ok_X6_readNumber : mOK yX6_readNumber cX6_readNumber 2 (none) 3 t_X6_readNumber := mOK.of f_X6_readNumber (by decide) (fun _ => rfl) (fun g => mCodeOK kk_X6_readNumber) (fun g => mFldL fk_RX6 rfl) (fun g idx v h => by cases h) (fun g idx v h => by cases h) (mCalL (l := l_X6_readNumber) (List.forall_mem_cons.mpr ⟨mSite.V (idx := 51) ok_X6_skipBlanks (by decide) (by decide) rv_X6_skipBlanks wc_X6_skipBlanks wk_RX6_51 wi_X6_skipBlanks wl_X6_skipBlanks wn_RX6 wd_X6_skipBlanks, List.forall_mem_cons.mpr ⟨mSite.V (idx := 65) ok_X6_isBetween (by decide) (by decide) rv_X6_isBetween wc_X6_isBetween wk_RX6_65 wi_X6_isBetween wl_X6_isBetween wn_RX6 wd_X6_isBetween, List.forall_mem_cons.mpr ⟨mSite.SN (idx := 69) ok_X7_at (by decide) (by decide) wc_X7_at wm_RX6_69 wt_X7_at wn_RX7 wd_X7_at, fun _ h => absurd h List.not_mem_nil⟩⟩⟩) (fun _ => rfl)) run_X6_readNumber

