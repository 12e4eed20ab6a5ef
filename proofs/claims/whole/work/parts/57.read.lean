/-! ===== CLASS Tape: words, suits; an act is read ===== -/
def pre_X6_readSuit (q : mM × List Int32 × aPs × Nat) (as : List mV) (M : mM) : Prop := as = [.inr (some 1), .inl (nI (q.2.2.2 - 1))] ∧ RpTp M q.2.1 ∧ q.2.1.length ≤ 40 ∧ TS q.1 M q.2.1 q.2.2.1 ∧ 0 < q.2.2.2 ∧ q.2.2.2 ≤ 5 ∧ ∀ x, q.2.2.1 = .inr x → x.2.2.2 = -1
def post_X6_readSuit (q : mM × List Int32 × aPs × Nat) (_ : List mV) (_ : mM) (M' : mM) : Prop := TS q.1 M' q.2.1 (sSuit q.2.1 q.2.2.2 q.2.2.1)
abbrev t_X6_readSuit : mG → mT := mRv pre_X6_readSuit post_X6_readSuit
theorem mo_X6_readSuit : mMn t_X6_readSuit := mRv_mono
theorem rv_X6_readSuit : mHasR yX6_readSuit 1 t_X6_readSuit := by
  intro g as M P hT hl
  obtain ⟨q, ⟨h2, -⟩, -⟩ := hT
  exact ⟨_, _, h2, is_X6 g _ rfl⟩
def k_X6_readSuit : List (Nat × mI) := [(0, .aload_n 0, 1, 0, 0, []),
  (1, .getfield 26, 3, 0, 0, []),
  (4, .iconst (-1), 1, 0, -1, []),
  (5, .if_icmp .eq 4, 3, 9, 0, []),
  (8, .return_, 1, 0, 0, []),
  (9, .aload_n 0, 1, 0, 0, []),
  (10, .invokevirtual 51, 3, 0, 0, []),
  (13, .aload_n 0, 1, 0, 0, []),
  (14, .getfield 23, 3, 0, 0, []),
  (17, .istore_n 2, 1, 2, 0, []),
  (18, .aload_n 0, 1, 0, 0, []),
  (19, .invokevirtual 54, 3, 0, 0, []),
  (22, .iconst 0, 1, 0, nI 0, []),
  (23, .istore_n 3, 1, 3, 0, []),
  (24, .iload_n 3, 1, 3, 0, []),
  (25, .iload_n 1, 1, 1, 0, []),
  (26, .if_icmp .gt 39, 3, 65, 0, []),
  (29, .aload_n 0, 1, 0, 0, []),
  (30, .getfield 23, 3, 0, 0, []),
  (33, .iload_n 2, 1, 2, 0, []),
  (34, .isub, 1, 0, 0, []),
  (35, .iconst 1, 1, 0, nI 1, []),
  (36, .if_icmp .ne 23, 3, 59, 0, []),
  (39, .aload_n 0, 1, 0, 0, []),
  (40, .getfield 9, 3, 0, 0, []),
  (43, .iload_n 2, 1, 2, 0, []),
  (44, .invokestatic 69, 3, 0, 0, []),
  (47, .iload_n 3, 1, 3, 0, []),
  (48, .invokestatic 73, 3, 0, 0, []),
  (51, .if_icmp .ne 8, 3, 59, 0, []),
  (54, .aload_n 0, 1, 0, 0, []),
  (55, .iload_n 3, 1, 3, 0, []),
  (56, .putfield 32, 3, 0, 0, []),
  (59, .iinc 3 1, 3, 3, nI 1, []),
  (62, .goto (-38), 3, 24, 0, []),
  (65, .aload_n 0, 1, 0, 0, []),
  (66, .getfield 32, 3, 0, 0, []),
  (69, .iconst (-1), 1, 0, -1, []),
  (70, .if_icmp .ne 8, 3, 78, 0, []),
  (73, .aload_n 0, 1, 0, 0, []),
  (74, .iload_n 2, 1, 2, 0, []),
  (75, .putfield 26, 3, 0, 0, []),
  (78, .return_, 1, 0, 0, [])]
theorem kk_X6_readSuit : (k_X6_readSuit.all fun e => mChk cX6_readSuit e.1 e.2) = true := by decide +kernel
def l_X6_readSuit : List (Nat × Nat × (mG → mT)) := [(3 * 51, 0 + 1, t_X6_skipBlanks), (3 * 54, 0 + 1, t_X6_skipLetters), (3 * 69 + 1, 2, t_X7_at), (3 * 73 + 1, 1, t_X7_suitLetter)]
def f_X6_readSuit (g : mG) : mF := (mLk k_X6_readSuit, mLk fl_RX6, mLk (l_X6_readSuit.map fun e => (e.1, e.2.1, e.2.2 g)), mLk ([] : List (Nat × mV)), mLk ([] : List (Nat × mV)), none)
theorem m_X6_readSuit (g : mG) : mMono (f_X6_readSuit g) := mMonoL (g := g) (l := l_X6_readSuit) (List.forall_mem_cons.mpr ⟨mo_X6_skipBlanks, List.forall_mem_cons.mpr ⟨mo_X6_skipLetters, List.forall_mem_cons.mpr ⟨mo_X7_at, List.forall_mem_cons.mpr ⟨mo_X7_suitLetter, fun _ h => absurd h List.not_mem_nil⟩⟩⟩⟩) rfl

theorem v_rs_0 (g : mG) (M : mM) (P : mP) (m : Int32)
    (h : ((M 1 3) = (-1) → ∃ x2 : List Int32 × Nat, pre_X6_skipBlanks x2 [.inr (some 1)] M ∧ ∀ M3 : mM, post_X6_skipBlanks x2 [.inr (some 1)] M M3 → (∃ x4 : List Int32 × Nat, pre_X6_skipLetters x4 [.inr (some 1)] M3 ∧ ∀ M5 : mM, post_X6_skipLetters x4 [.inr (some 1)] M3 M5 → (mRun (mSx g) (f_X6_readSuit g) P (24, [some (.inr (some 1)), some (.inl m), some (.inl (M3 1 2)), some (.inl (nI 0))], [], M5)))) ∧ (¬ ((M 1 3) = (-1)) → P none M)) :
    mRun (mSx g) (f_X6_readSuit g) P (0, [some (.inr (some 1)), some (.inl m), none, none], [], M) := mRun.vc (m_X6_readSuit g) [24] 14 h

theorem v_rs_24 (g : mG) (M : mM) (P : mP) (m a s : Int32)
    (h : (m < s → (¬ (M 1 6) = (-1) → P none M) ∧ (¬ (¬ (M 1 6) = (-1)) → let M3 : mM := mW1 M 1 3 a; P none M3)) ∧ (¬ (m < s) → (¬ ((M 1 2) - a) = (nI 1) → mRun (mSx g) (f_X6_readSuit g) P (24, [some (.inr (some 1)), some (.inl m), some (.inl a), some (.inl (s + (nI 1)))], [], M)) ∧ (¬ (¬ ((M 1 2) - a) = (nI 1)) → (¬ (aAt (M 2) 40 a) = (fLetter s) → mRun (mSx g) (f_X6_readSuit g) P (24, [some (.inr (some 1)), some (.inl m), some (.inl a), some (.inl (s + (nI 1)))], [], M)) ∧ (¬ (¬ (aAt (M 2) 40 a) = (fLetter s)) → let M6 : mM := mW1 M 1 6 s; mRun (mSx g) (f_X6_readSuit g) P (24, [some (.inr (some 1)), some (.inl m), some (.inl a), some (.inl (s + (nI 1)))], [], M6))))) :
    mRun (mSx g) (f_X6_readSuit g) P (24, [some (.inr (some 1)), some (.inl m), some (.inl a), some (.inl s)], [], M) := mRun.vc (m_X6_readSuit g) [24] 22 h

/-- the suits below s are looked at -/
def US (M0 M : mM) (x : Nat × Int32 × Int32 × Int32) (t : List Int32) (s : Nat) : Prop := (∀ c, c ≠ 1 → M c = M0 c) ∧ M 1 1 = M0 1 1 ∧ M 1 3 = -1 ∧ M 1 2 = nI (skip cL t (skip cB t x.1)) ∧ M 1 4 = x.2.1 ∧ M 1 5 = x.2.2.1 ∧ M 1 6 = (if skip cL t (skip cB t x.1) - skip cB t x.1 = 1 then oI (ltr (bA t (skip cB t x.1)) s) else -1)
theorem ltr_lt {c : Int32} : ∀ {k s : Nat}, ltr c k = some s → s < k
  | 0, _, h => by cases h
  | k + 1, s, h => by
    rw [ltr] at h
    split at h
    · cases h
      omega
    · have := ltr_lt h
      omega
theorem rs_loop (g : mG) (P : mP) (M0 : mM) (t : List Int32) (x : Nat × Int32 × Int32 × Int32) (k : Nat) (hk0 : 0 < k) (hk : k ≤ 5) (h2 : RpTp M0 t) (ht : t.length ≤ 40) (hx : x.1 ≤ t.length) (hP : ∀ M', TS M0 M' t (sSuit t k (.inr x)) → P none M') :
    ∀ (n s : Nat) (M : mM), s + n = k → US M0 M x t s → mRun (mSx g) (f_X6_readSuit g) P (24, [some (.inr (some 1)), some (.inl (nI (k - 1))), some (.inl (nI (skip cB t x.1))), some (.inl (nI s))], [], M) := by
  have hsl := skip_le (f := cB) hx
  have hsl2 := skip_le (f := cL) hsl.2
  intro n
  induction n with
  | zero =>
    intro s M h hN
    obtain rfl : s = k := by omega
    obtain ⟨n1, n2, n3, n4, n5, n6, n7⟩ := hN
    refine v_rs_24 g M P _ _ _ ⟨fun _ => ?_, fun w => absurd (nI_lt (by omega) (by omega)) w⟩
    rw [n7]
    by_cases e : skip cL t (skip cB t x.1) - skip cB t x.1 = 1
    · rw [if_pos e]
      cases hl : ltr (bA t (skip cB t x.1)) s with
      | none =>
        refine ⟨fun w => absurd rfl w, fun _ => ?_⟩
        intro M5
        refine hP M5 ?_
        rw [show sSuit t s (.inr x) = .inl (skip cB t x.1) by
          unfold sSuit pSuit
          dsimp only
          rw [if_pos e, hl]
          rfl]
        exact ⟨fun c hc => (mW1_c hc).trans (n1 c hc), (mW1_k (by decide)).trans n2, mW1_s, hsl.2, _, hsl2.2, (mW1_k (by decide)).trans n4⟩
      | some u =>
        have hu := ltr_lt hl
        refine ⟨fun _ => hP M ?_, fun w => absurd (Classical.not_not.mp w) (ne_m1 (by omega))⟩
        rw [show sSuit t s (.inr x) = .inr (skip cL t (skip cB t x.1), x.2.1, x.2.2.1, nI u) by
          unfold sSuit pSuit
          dsimp only
          rw [if_pos e, hl]
          rfl]
        refine ⟨n1, n2, n3, hsl2.2, n4, n5, n6, ?_⟩
        rw [n7, if_pos e, hl]
        rfl
    · rw [if_neg e]
      refine ⟨fun w => absurd rfl w, fun _ => ?_⟩
      intro M5
      refine hP M5 ?_
      rw [show sSuit t s (.inr x) = .inl (skip cB t x.1) by
        unfold sSuit pSuit
        dsimp only
        rw [if_neg e]]
      exact ⟨fun c hc => (mW1_c hc).trans (n1 c hc), (mW1_k (by decide)).trans n2, mW1_s, hsl.2, _, hsl2.2, (mW1_k (by decide)).trans n4⟩
  | succ n ih =>
    intro s M h hN
    have hN' := hN
    obtain ⟨n1, n2, n3, n4, n5, n6, n7⟩ := hN
    have hT1 : RpTp M t := by
      unfold RpTp
      rw [n2, n1 2 (by decide)]
      exact h2
    refine v_rs_24 g M P _ _ _ ⟨fun w => absurd w (nI_nlt (by omega) (by omega)), fun _ => ?_⟩
    rw [n4, pk_sub hsl2.1, nI_eq (by omega) (by decide), nI_add]
    refine ⟨fun w => ?_, fun w => ?_⟩
    · refine ih (s + 1) M (by omega) ⟨n1, n2, n3, n4, n5, n6, ?_⟩
      rw [n7, if_neg w, if_neg w]
    · have w' := Classical.not_not.mp w
      rw [tape_at hT1 ht (by omega)]
      refine ⟨fun w2 => ?_, fun w2 => ?_⟩
      · refine ih (s + 1) M (by omega) ⟨n1, n2, n3, n4, n5, n6, ?_⟩
        rw [n7, if_pos w', if_pos w', ltr, if_neg w2]
      · have w2' := Classical.not_not.mp w2
        intro M5
        refine ih (s + 1) M5 (by omega) ⟨fun c hc => (mW1_c hc).trans (n1 c hc), (mW1_k (by decide)).trans n2, (mW1_k (by decide)).trans n3, (mW1_k (by decide)).trans n4, (mW1_k (by decide)).trans n5, (mW1_k (by decide)).trans n6, ?_⟩
        rw [if_pos w', ltr, if_pos w2']
        exact mW1_s
theorem run_X6_readSuit : mRunOf 4 t_X6_readSuit f_X6_readSuit := fun g as M P hT => by
  obtain ⟨⟨M0, t, s, k⟩, ⟨rfl, h2, h3, h4, h5, h6, h7⟩, hP⟩ := hT
  refine ⟨Nat.le_of_ble_eq_true rfl, ?_⟩
  dsimp only at h2 h3 h4 h5 h6 h7
  have h4' := h4
  cases s with
  | inl f =>
    obtain ⟨a1, a2, a3, a4, q, hq, a5⟩ := h4
    refine v_rs_0 g M P _ ?_
    rw [a3]
    exact ⟨fun w => absurd w (ne_m1 (by omega)), fun _ => hP M h4'⟩
  | inr x =>
    obtain ⟨a1, a2, a3, a4, a5, a6, a7, a8⟩ := h4
    have hsl := skip_le (f := cB) a4
    have hsl2 := skip_le (f := cL) hsl.2
    refine v_rs_0 g M P _ ?_
    rw [a3]
    refine ⟨fun _ => ⟨(t, x.1), ⟨rfl, h2, h3, a5, a4⟩, fun M2 k2 => ?_⟩, fun w => absurd rfl w⟩
    have k' : TpF M M2 (skip cB t x.1) := k2
    have hT2 := k'.tape h2
    obtain ⟨k1, k2, k3⟩ := k'
    refine ⟨(t, skip cB t x.1), ⟨rfl, hT2, h3, k3, hsl.2⟩, fun M4 k4 => ?_⟩
    have k4' : TpF M2 M4 (skip cL t (skip cB t x.1)) := k4
    obtain ⟨j1, j2, j3⟩ := k4'
    rw [k3]
    have hM0 : RpTp M0 t := by
      unfold RpTp
      rw [← a2, ← a1 2 (by decide)]
      exact h2
    refine rs_loop g P M0 t x k h5 h6 hM0 h3 a4 (fun M' h => hP M' h) k 0 M4 (by omega) ⟨fun c hc => ?_, ?_, ?_, j3, ?_, ?_, ?_⟩
    · rw [j1 c hc, k1 c hc]
      exact a1 c hc
    · rw [j2 1 (by decide), k2 1 (by decide)]
      exact a2
    · rw [j2 3 (by decide), k2 3 (by decide)]
      exact a3
    · rw [j2 4 (by decide), k2 4 (by decide)]
      exact a6
    · rw [j2 5 (by decide), k2 5 (by decide)]
      exact a7
    · rw [j2 6 (by decide), k2 6 (by decide), a8, h7 x rfl]
      split <;> rfl
theorem ok_X6_readSuit : mOK yX6_readSuit cX6_readSuit 4 (none) 4 t_X6_readSuit := mOK.of f_X6_readSuit (by decide) (fun _ => rfl) (fun g => mCodeOK kk_X6_readSuit) (fun g => mFldL fk_RX6 rfl) (fun g idx v h => by cases h) (fun g idx v h => by cases h) (mCalL (l := l_X6_readSuit) (List.forall_mem_cons.mpr ⟨mSite.V (idx := 51) ok_X6_skipBlanks (by decide) (by decide) rv_X6_skipBlanks wc_X6_skipBlanks wk_RX6_51 wi_X6_skipBlanks wl_X6_skipBlanks wn_RX6 wd_X6_skipBlanks, List.forall_mem_cons.mpr ⟨mSite.V (idx := 54) ok_X6_skipLetters (by decide) (by decide) rv_X6_skipLetters wc_X6_skipLetters wk_RX6_54 wi_X6_skipLetters wl_X6_skipLetters wn_RX6 wd_X6_skipLetters, List.forall_mem_cons.mpr ⟨mSite.SN (idx := 69) ok_X7_at (by decide) (by decide) wc_X7_at wm_RX6_69 wt_X7_at wn_RX7 wd_X7_at, List.forall_mem_cons.mpr ⟨mSite.SN (idx := 73) ok_X7_suitLetter (by decide) (by decide) wc_X7_suitLetter wm_RX6_73 wt_X7_suitLetter wn_RX7 wd_X7_suitLetter, fun _ h => absurd h List.not_mem_nil⟩⟩⟩⟩) (fun _ => rfl)) run_X6_readSuit

def pre_X6_readWord (q : mM × List Int32) (as : List mV) (M : mM) : Prop := as = [.inr (some 1)] ∧ RpTp M q.2 ∧ q.2.length ≤ 40 ∧ (∀ c, c ≠ 1 → M c = q.1 c) ∧ M 1 1 = q.1 1 1 ∧ M 1 2 = nI 0 ∧ M 1 3 = -1 ∧ M 1 5 = -1 ∧ M 1 6 = -1
def post_X6_readWord (q : mM × List Int32) (_ : List mV) (_ : mM) (M' : mM) : Prop := TS q.1 M' q.2 (sWord q.2) ∧ M' 1 4 = oI (pWord q.2)
abbrev t_X6_readWord : mG → mT := mRv pre_X6_readWord post_X6_readWord
theorem mo_X6_readWord : mMn t_X6_readWord := mRv_mono
theorem rv_X6_readWord : mHasR yX6_readWord 0 t_X6_readWord := by
  intro g as M P hT hl
  obtain ⟨q, ⟨h2, -⟩, -⟩ := hT
  exact ⟨_, _, h2, is_X6 g _ rfl⟩
def k_X6_readWord : List (Nat × mI) := [(0, .aload_n 0, 1, 0, 0, []),
  (1, .invokevirtual 51, 3, 0, 0, []),
  (4, .aload_n 0, 1, 0, 0, []),
  (5, .getfield 23, 3, 0, 0, []),
  (8, .istore_n 1, 1, 1, 0, []),
  (9, .aload_n 0, 1, 0, 0, []),
  (10, .invokevirtual 54, 3, 0, 0, []),
  (13, .aload_n 0, 1, 0, 0, []),
  (14, .iconst (-1), 1, 0, -1, []),
  (15, .putfield 38, 3, 0, 0, []),
  (18, .iconst 0, 1, 0, nI 0, []),
  (19, .istore_n 2, 1, 2, 0, []),
  (20, .iload_n 2, 1, 2, 0, []),
  (21, .bipush 9, 2, 0, nI 9, []),
  (23, .if_icmp .ge 34, 3, 57, 0, []),
  (26, .aload_n 0, 1, 0, 0, []),
  (27, .getfield 38, 3, 0, 0, []),
  (30, .iconst (-1), 1, 0, -1, []),
  (31, .if_icmp .ne 26, 3, 57, 0, []),
  (34, .aload_n 0, 1, 0, 0, []),
  (35, .iload_n 2, 1, 2, 0, []),
  (36, .invokestatic 57, 3, 0, 0, []),
  (39, .iload_n 1, 1, 1, 0, []),
  (40, .invokevirtual 61, 3, 0, 0, []),
  (43, .ifCond .eq 8, 3, 51, 0, []),
  (46, .aload_n 0, 1, 0, 0, []),
  (47, .iload_n 2, 1, 2, 0, []),
  (48, .putfield 38, 3, 0, 0, []),
  (51, .iinc 2 1, 3, 2, nI 1, []),
  (54, .goto (-34), 3, 20, 0, []),
  (57, .aload_n 0, 1, 0, 0, []),
  (58, .getfield 38, 3, 0, 0, []),
  (61, .iconst (-1), 1, 0, -1, []),
  (62, .if_icmp .ne 8, 3, 70, 0, []),
  (65, .aload_n 0, 1, 0, 0, []),
  (66, .iload_n 1, 1, 1, 0, []),
  (67, .putfield 26, 3, 0, 0, []),
  (70, .return_, 1, 0, 0, [])]
theorem kk_X6_readWord : (k_X6_readWord.all fun e => mChk cX6_readWord e.1 e.2) = true := by decide +kernel
def l_X6_readWord : List (Nat × Nat × (mG → mT)) := [(3 * 51, 0 + 1, t_X6_skipBlanks), (3 * 54, 0 + 1, t_X6_skipLetters), (3 * 57 + 1, 1, t_X7_wordText), (3 * 61, 2 + 1, t_X6_isText)]
def f_X6_readWord (g : mG) : mF := (mLk k_X6_readWord, mLk fl_RX6, mLk (l_X6_readWord.map fun e => (e.1, e.2.1, e.2.2 g)), mLk ([] : List (Nat × mV)), mLk ([] : List (Nat × mV)), none)
theorem m_X6_readWord (g : mG) : mMono (f_X6_readWord g) := mMonoL (g := g) (l := l_X6_readWord) (List.forall_mem_cons.mpr ⟨mo_X6_skipBlanks, List.forall_mem_cons.mpr ⟨mo_X6_skipLetters, List.forall_mem_cons.mpr ⟨mo_X7_wordText, List.forall_mem_cons.mpr ⟨mo_X6_isText, fun _ h => absurd h List.not_mem_nil⟩⟩⟩⟩) rfl

theorem v_rw_0 (g : mG) (M : mM) (P : mP) 
    (h : ∃ x1 : List Int32 × Nat, pre_X6_skipBlanks x1 [.inr (some 1)] M ∧ ∀ M2 : mM, post_X6_skipBlanks x1 [.inr (some 1)] M M2 → (∃ x3 : List Int32 × Nat, pre_X6_skipLetters x3 [.inr (some 1)] M2 ∧ ∀ M4 : mM, post_X6_skipLetters x3 [.inr (some 1)] M2 M4 → (let M5 : mM := mW1 M4 1 4 (-1); mRun (mSx g) (f_X6_readWord g) P (20, [some (.inr (some 1)), some (.inl (M2 1 2)), some (.inl (nI 0))], [], M5)))) :
    mRun (mSx g) (f_X6_readWord g) P (0, [some (.inr (some 1)), none, none], [], M) := mRun.vc (m_X6_readWord g) [20] 13 h

theorem v_rw_20 (g : mG) (M : mM) (P : mP) (a w : Int32)
    (h : ((nI 9) ≤ w → (¬ (M 1 4) = (-1) → P none M) ∧ (¬ (¬ (M 1 4) = (-1)) → let M3 : mM := mW1 M 1 3 a; P none M3)) ∧ (¬ ((nI 9) ≤ w) → (¬ (M 1 4) = (-1) → (¬ (M 1 4) = (-1) → P none M) ∧ (¬ (¬ (M 1 4) = (-1)) → let M6 : mM := mW1 M 1 3 a; P none M6)) ∧ (¬ (¬ (M 1 4) = (-1)) → t_X7_wordText g [.inl w] M (fun r M2 => mRun (mSx g) (f_X6_readWord g) P (39, [some (.inr (some 1)), some (.inl a), some (.inl w)], mRes r [.inr (some 1)], M2))))) :
    mRun (mSx g) (f_X6_readWord g) P (20, [some (.inr (some 1)), some (.inl a), some (.inl w)], [], M) := mRun.vc (m_X6_readWord g) [39] 15 h

theorem v_rw_39 (g : mG) (M : mM) (P : mP) (n : Nat) (a w : Int32)
    (h : ∃ x1 : Nat × List Int32 × Nat × Nat, pre_X6_isText x1 [.inr (some 1), .inr (some (1000 + n)), .inl a] M ∧ ∀ (r3 : Int32) (M2 : mM), post_X6_isText x1 [.inr (some 1), .inr (some (1000 + n)), .inl a] M r3 M2 → ((r3 = 0 → mRun (mSx g) (f_X6_readWord g) P (20, [some (.inr (some 1)), some (.inl a), some (.inl (w + (nI 1)))], [], M2)) ∧ (¬ (r3 = 0) → let M5 : mM := mW1 M2 1 4 w; mRun (mSx g) (f_X6_readWord g) P (20, [some (.inr (some 1)), some (.inl a), some (.inl (w + (nI 1)))], [], M5)))) :
    mRun (mSx g) (f_X6_readWord g) P (39, [some (.inr (some 1)), some (.inl a), some (.inl w)], [.inr (some (1000 + n)), .inr (some 1)], M) := mRun.vc (m_X6_readWord g) [20] 9 h

theorem fO_lt {f : Nat → Bool} : ∀ {n i j : Nat}, fO f n i = some j → i ≤ j ∧ j < i + n
  | 0, _, _, h => by cases h
  | n + 1, i, j, h => by
    rw [fO] at h
    split at h
    · have := fO_lt h
      omega
    · cases h
      omega
theorem pWord_lt {t : List Int32} {w : Nat} (h : pWord t = some w) : w < 9 := by
  have := fO_lt h
  omega
def WS (M0 M : mM) (t : List Int32) (v : Int32) : Prop := (∀ c, c ≠ 1 → M c = M0 c) ∧ M 1 1 = M0 1 1 ∧ M 1 2 = nI (skip cL t (skip cB t 0)) ∧ M 1 3 = -1 ∧ M 1 4 = v ∧ M 1 5 = -1 ∧ M 1 6 = -1
theorem rw_end (g : mG) (P : mP) (M0 M : mM) (t : List Int32) (ht : t.length ≤ 40) (hP : ∀ M', TS M0 M' t (sWord t) ∧ M' 1 4 = oI (pWord t) → P none M') (hW : WS M0 M t (oI (pWord t))) :
    (¬ M 1 4 = -1 → P none M) ∧ (¬ (¬ M 1 4 = -1) → P none (mW1 M 1 3 (nI (skip cB t 0)))) := by
  obtain ⟨n1, n2, n3, n4, n5, n6, n7⟩ := hW
  have hsl := skip_le (f := cB) (t := t) (Nat.zero_le _)
  have hsl2 := skip_le (f := cL) hsl.2
  cases hp : pWord t with
  | none =>
    rw [hp] at n5
    refine ⟨fun w => absurd n5 w, fun _ => hP _ ⟨?_, ?_⟩⟩
    · rw [show sWord t = .inl (skip cB t 0) by unfold sWord; rw [hp]]
      exact ⟨fun c hc => (mW1_c hc).trans (n1 c hc), (mW1_k (by decide)).trans n2, mW1_s, hsl.2, _, hsl2.2, (mW1_k (by decide)).trans n3⟩
    · rw [hp]
      exact (mW1_k (by decide)).trans n5
  | some w =>
    have hw := pWord_lt hp
    rw [hp] at n5
    have n5' : M 1 4 = nI w := n5
    refine ⟨fun _ => hP _ ⟨?_, by rw [hp]; exact n5⟩, fun y => absurd (Classical.not_not.mp y) (by rw [n5']; exact ne_m1 (by omega))⟩
    rw [show sWord t = .inr (skip cL t (skip cB t 0), nI w, -1, -1) by unfold sWord; rw [hp]]
    exact ⟨n1, n2, n4, hsl2.2, n3, n5', n6, n7⟩
theorem rw_loop (g : mG) (P : mP) (M0 : mM) (t : List Int32) (h2 : RpTp M0 t) (ht : t.length ≤ 40) (hP : ∀ M', TS M0 M' t (sWord t) ∧ M' 1 4 = oI (pWord t) → P none M') :
    ∀ (n w : Nat) (M : mM) (v : Option Nat), w + n = 9 → WS M0 M t (oI v) → (v = none ∧ fO (fun w => !dTx t w (skip cB t 0) (skip cL t (skip cB t 0))) n w = pWord t) ∨ (v = pWord t ∧ v.isSome = true) → mRun (mSx g) (f_X6_readWord g) P (20, [some (.inr (some 1)), some (.inl (nI (skip cB t 0))), some (.inl (nI w))], [], M) := by
  have hsl := skip_le (f := cB) (t := t) (Nat.zero_le _)
  have hsl2 := skip_le (f := cL) hsl.2
  intro n
  induction n with
  | zero =>
    intro w M v h hW hv
    refine v_rw_20 g M P _ _ ⟨fun _ => rw_end g P M0 M t ht hP ?_, fun y => absurd (nI_le (by omega) (by omega)) y⟩
    rcases hv with ⟨rfl, hv⟩ | ⟨rfl, -⟩
    · rw [← hv]
      exact hW
    · exact hW
  | succ n ih =>
    intro w M v h hW hv
    have hW' := hW
    obtain ⟨n1, n2, n3, n4, n5, n6, n7⟩ := hW
    have hT1 : RpTp M t := by
      unfold RpTp
      rw [n2, n1 2 (by decide)]
      exact h2
    refine v_rw_20 g M P _ _ ⟨fun y => absurd y (nI_ge (by omega) (by decide)), fun _ => ?_⟩
    rcases hv with ⟨rfl, hv⟩ | ⟨rfl, hv⟩
    · have n5' : M 1 4 = -1 := n5
      rw [n5']
      refine ⟨fun y => absurd rfl y, fun _ => wt_at (by omega) (v_rw_39 g M P w _ _ ⟨(w, t, skip cB t 0, skip cL t (skip cB t 0)), ⟨by show w < 9; omega, rfl, hT1, ht, n3, hsl2.1, hsl2.2⟩, fun r M2 hr => ?_⟩)⟩
      obtain ⟨hr1, rfl⟩ := hr
      have hr2 : r = mb (dTx t w (skip cB t 0) (skip cL t (skip cB t 0)) = true) := hr1
      rw [hr2, mb_0, nI_add]
      refine ⟨fun y => ih (w + 1) M2 none (by omega) hW' (Or.inl ⟨rfl, ?_⟩), fun y => ?_⟩
      · rw [← hv, fO, if_pos (by rw [Bool.eq_false_iff.mpr y]; rfl)]
      · have y' := Classical.not_not.mp y
        intro M5
        rw [fO, if_neg (by rw [y']; decide)] at hv
        exact ih (w + 1) M5 (some w) (by omega) ⟨fun c hc => (mW1_c hc).trans (n1 c hc), (mW1_k (by decide)).trans n2, (mW1_k (by decide)).trans n3, (mW1_k (by decide)).trans n4, mW1_s, (mW1_k (by decide)).trans n6, (mW1_k (by decide)).trans n7⟩ (Or.inr ⟨hv, rfl⟩)
    · have hne : ¬ M 1 4 = -1 := by
        cases hp : pWord t with
        | none =>
          rw [hp] at hv
          cases hv
        | some u =>
          have hu := pWord_lt hp
          rw [n5, hp]
          exact ne_m1 (by omega)
      exact ⟨fun _ => rw_end g P M0 M t ht hP hW', fun y => absurd hne y⟩
theorem run_X6_readWord : mRunOf 3 t_X6_readWord f_X6_readWord := fun g as M P hT => by
  obtain ⟨⟨M0, t⟩, ⟨rfl, h2, h3, h4, h5, h6, h7, h8, h9⟩, hP⟩ := hT
  refine ⟨Nat.le_of_ble_eq_true rfl, ?_⟩
  dsimp only at h2 h3 h4 h5 h6 h7 h8 h9
  have hsl := skip_le (f := cB) (t := t) (Nat.zero_le _)
  refine v_rw_0 g M P ⟨(t, 0), ⟨rfl, h2, h3, h6, Nat.zero_le _⟩, fun M2 k2 => ?_⟩
  have k' : TpF M M2 (skip cB t 0) := k2
  have hT2 := k'.tape h2
  obtain ⟨k1, k2, k3⟩ := k'
  refine ⟨(t, skip cB t 0), ⟨rfl, hT2, h3, k3, hsl.2⟩, fun M4 k4 => ?_⟩
  have k4' : TpF M2 M4 (skip cL t (skip cB t 0)) := k4
  obtain ⟨j1, j2, j3⟩ := k4'
  rw [k3]
  have hM0 : RpTp M0 t := by
    unfold RpTp
    rw [← h5, ← h4 2 (by decide)]
    exact h2
  intro M6
  refine rw_loop g P M0 t hM0 h3 (fun M' h => hP M' h) 9 0 M6 none (by omega) ⟨fun c hc => ?_, ?_, ?_, ?_, mW1_s, ?_, ?_⟩ (Or.inl ⟨rfl, rfl⟩)
  · exact (mW1_c hc).trans ((j1 c hc).trans ((k1 c hc).trans (h4 c hc)))
  · exact (mW1_k (by decide)).trans ((j2 1 (by decide)).trans ((k2 1 (by decide)).trans h5))
  · exact (mW1_k (by decide)).trans j3
  · exact (mW1_k (by decide)).trans ((j2 3 (by decide)).trans ((k2 3 (by decide)).trans h7))
  · exact (mW1_k (by decide)).trans ((j2 5 (by decide)).trans ((k2 5 (by decide)).trans h8))
  · exact (mW1_k (by decide)).trans ((j2 6 (by decide)).trans ((k2 6 (by decide)).trans h9))
theorem ok_X6_readWord : mOK yX6_readWord cX6_readWord 3 (none) 6 t_X6_readWord := mOK.of f_X6_readWord (by decide) (fun _ => rfl) (fun g => mCodeOK kk_X6_readWord) (fun g => mFldL fk_RX6 rfl) (fun g idx v h => by cases h) (fun g idx v h => by cases h) (mCalL (l := l_X6_readWord) (List.forall_mem_cons.mpr ⟨mSite.V (idx := 51) ok_X6_skipBlanks (by decide) (by decide) rv_X6_skipBlanks wc_X6_skipBlanks wk_RX6_51 wi_X6_skipBlanks wl_X6_skipBlanks wn_RX6 wd_X6_skipBlanks, List.forall_mem_cons.mpr ⟨mSite.V (idx := 54) ok_X6_skipLetters (by decide) (by decide) rv_X6_skipLetters wc_X6_skipLetters wk_RX6_54 wi_X6_skipLetters wl_X6_skipLetters wn_RX6 wd_X6_skipLetters, List.forall_mem_cons.mpr ⟨mSite.SN (idx := 57) ok_X7_wordText (by decide) (by decide) wc_X7_wordText wm_RX6_57 wt_X7_wordText wn_RX7 wd_X7_wordText, List.forall_mem_cons.mpr ⟨mSite.V (idx := 61) ok_X6_isText (by decide) (by decide) rv_X6_isText wc_X6_isText wk_RX6_61 wi_X6_isText wl_X6_isText wn_RX6 wd_X6_isText, fun _ h => absurd h List.not_mem_nil⟩⟩⟩⟩) (fun _ => rfl)) run_X6_readWord

/-- what the tape tells: a fault; or word, number, suit -/
def sRest (t : List Int32) (w : Nat) (s : aPs) : aPs := if w = 0 ∨ w = 6 ∨ w = 7 ∨ w = 8 then sNum t s else if w = 1 then sSuit t 5 (sNum t s) else if w = 5 then sNum t (sSuit t 4 s) else s
def sRead (t : List Int32) : aPs := match pWord t with
  | none => sWord t
  | some w => sEnd t (sRest t w (sWord t))
def pre_X6_read (t : List Int32) (as : List mV) (M : mM) : Prop := as = [.inr (some 1)] ∧ RpTp M t ∧ t.length ≤ 40
def post_X6_read (t : List Int32) (_ : List mV) (M : mM) (M' : mM) : Prop := TS M M' t (sRead t)
abbrev t_X6_read : mG → mT := mRv pre_X6_read post_X6_read
theorem mo_X6_read : mMn t_X6_read := mRv_mono
theorem rv_X6_read : mHasR yX6_read 0 t_X6_read := by
  intro g as M P hT hl
  obtain ⟨q, ⟨h2, -⟩, -⟩ := hT
  exact ⟨_, _, h2, is_X6 g _ rfl⟩
theorem TS.tp {M0 M : mM} {t : List Int32} {s : aPs} (h : TS M0 M t s) (k : RpTp M0 t) : RpTp M t := by
  unfold RpTp
  rw [h.2.1, h.1 2 (by decide)]
  exact k
def k_X6_read : List (Nat × mI) := [(0, .aload_n 0, 1, 0, 0, []),
  (1, .iconst 0, 1, 0, nI 0, []),
  (2, .putfield 23, 3, 0, 0, []),
  (5, .aload_n 0, 1, 0, 0, []),
  (6, .iconst (-1), 1, 0, -1, []),
  (7, .putfield 26, 3, 0, 0, []),
  (10, .aload_n 0, 1, 0, 0, []),
  (11, .iconst (-1), 1, 0, -1, []),
  (12, .putfield 29, 3, 0, 0, []),
  (15, .aload_n 0, 1, 0, 0, []),
  (16, .iconst (-1), 1, 0, -1, []),
  (17, .putfield 32, 3, 0, 0, []),
  (20, .aload_n 0, 1, 0, 0, []),
  (21, .invokevirtual 35, 3, 0, 0, []),
  (24, .aload_n 0, 1, 0, 0, []),
  (25, .getfield 38, 3, 0, 0, []),
  (28, .tableswitch 83 0 8 #[52, 59, 83, 83, 83, 71, 52, 52, 52], 52, 111, 0, [(nI 0, 80), (nI 1, 87), (nI 2, 111), (nI 3, 111), (nI 4, 111), (nI 5, 99), (nI 6, 80), (nI 7, 80), (nI 8, 80)]),
  (80, .aload_n 0, 1, 0, 0, []),
  (81, .invokevirtual 41, 3, 0, 0, []),
  (84, .goto 27, 3, 111, 0, []),
  (87, .aload_n 0, 1, 0, 0, []),
  (88, .invokevirtual 41, 3, 0, 0, []),
  (91, .aload_n 0, 1, 0, 0, []),
  (92, .iconst 4, 1, 0, nI 4, []),
  (93, .invokevirtual 44, 3, 0, 0, []),
  (96, .goto 15, 3, 111, 0, []),
  (99, .aload_n 0, 1, 0, 0, []),
  (100, .iconst 3, 1, 0, nI 3, []),
  (101, .invokevirtual 44, 3, 0, 0, []),
  (104, .aload_n 0, 1, 0, 0, []),
  (105, .invokevirtual 41, 3, 0, 0, []),
  (108, .goto 3, 3, 111, 0, []),
  (111, .aload_n 0, 1, 0, 0, []),
  (112, .invokevirtual 48, 3, 0, 0, []),
  (115, .return_, 1, 0, 0, [])]
theorem kk_X6_read : (k_X6_read.all fun e => mChk cX6_read e.1 e.2) = true := by decide +kernel
def l_X6_read : List (Nat × Nat × (mG → mT)) := [(3 * 35, 0 + 1, t_X6_readWord), (3 * 41, 0 + 1, t_X6_readNumber), (3 * 44, 1 + 1, t_X6_readSuit), (3 * 48, 0 + 1, t_X6_readEnd)]
def f_X6_read (g : mG) : mF := (mLk k_X6_read, mLk fl_RX6, mLk (l_X6_read.map fun e => (e.1, e.2.1, e.2.2 g)), mLk ([] : List (Nat × mV)), mLk ([] : List (Nat × mV)), none)
theorem m_X6_read (g : mG) : mMono (f_X6_read g) := mMonoL (g := g) (l := l_X6_read) (List.forall_mem_cons.mpr ⟨mo_X6_readWord, List.forall_mem_cons.mpr ⟨mo_X6_readNumber, List.forall_mem_cons.mpr ⟨mo_X6_readSuit, List.forall_mem_cons.mpr ⟨mo_X6_readEnd, fun _ h => absurd h List.not_mem_nil⟩⟩⟩⟩) rfl

theorem v_rd (g : mG) (M : mM) (P : mP) 
    (h : let M1 : mM := mW1 M 1 2 (nI 0); let M2 : mM := mW1 M1 1 3 (-1); let M3 : mM := mW1 M2 1 5 (-1); let M4 : mM := mW1 M3 1 6 (-1); ∃ x5 : mM × List Int32, pre_X6_readWord x5 [.inr (some 1)] M4 ∧ ∀ M6 : mM, post_X6_readWord x5 [.inr (some 1)] M4 M6 → (((M6 1 4) = (nI 0) → ∃ x8 : mM × List Int32 × aPs, pre_X6_readNumber x8 [.inr (some 1)] M6 ∧ ∀ M9 : mM, post_X6_readNumber x8 [.inr (some 1)] M6 M9 → (∃ x10 : mM × List Int32 × aPs, pre_X6_readEnd x10 [.inr (some 1)] M9 ∧ ∀ M11 : mM, post_X6_readEnd x10 [.inr (some 1)] M9 M11 → (P none M11))) ∧ (¬ (M6 1 4) = (nI 0) → ((M6 1 4) = (nI 1) → ∃ x13 : mM × List Int32 × aPs, pre_X6_readNumber x13 [.inr (some 1)] M6 ∧ ∀ M14 : mM, post_X6_readNumber x13 [.inr (some 1)] M6 M14 → (∃ x15 : mM × List Int32 × aPs × Nat, pre_X6_readSuit x15 [.inr (some 1), .inl (nI 4)] M14 ∧ ∀ M16 : mM, post_X6_readSuit x15 [.inr (some 1), .inl (nI 4)] M14 M16 → (∃ x17 : mM × List Int32 × aPs, pre_X6_readEnd x17 [.inr (some 1)] M16 ∧ ∀ M18 : mM, post_X6_readEnd x17 [.inr (some 1)] M16 M18 → (P none M18)))) ∧ (¬ (M6 1 4) = (nI 1) → ((M6 1 4) = (nI 2) → ∃ x20 : mM × List Int32 × aPs, pre_X6_readEnd x20 [.inr (some 1)] M6 ∧ ∀ M21 : mM, post_X6_readEnd x20 [.inr (some 1)] M6 M21 → (P none M21)) ∧ (¬ (M6 1 4) = (nI 2) → ((M6 1 4) = (nI 3) → ∃ x23 : mM × List Int32 × aPs, pre_X6_readEnd x23 [.inr (some 1)] M6 ∧ ∀ M24 : mM, post_X6_readEnd x23 [.inr (some 1)] M6 M24 → (P none M24)) ∧ (¬ (M6 1 4) = (nI 3) → ((M6 1 4) = (nI 4) → ∃ x26 : mM × List Int32 × aPs, pre_X6_readEnd x26 [.inr (some 1)] M6 ∧ ∀ M27 : mM, post_X6_readEnd x26 [.inr (some 1)] M6 M27 → (P none M27)) ∧ (¬ (M6 1 4) = (nI 4) → ((M6 1 4) = (nI 5) → ∃ x29 : mM × List Int32 × aPs × Nat, pre_X6_readSuit x29 [.inr (some 1), .inl (nI 3)] M6 ∧ ∀ M30 : mM, post_X6_readSuit x29 [.inr (some 1), .inl (nI 3)] M6 M30 → (∃ x31 : mM × List Int32 × aPs, pre_X6_readNumber x31 [.inr (some 1)] M30 ∧ ∀ M32 : mM, post_X6_readNumber x31 [.inr (some 1)] M30 M32 → (∃ x33 : mM × List Int32 × aPs, pre_X6_readEnd x33 [.inr (some 1)] M32 ∧ ∀ M34 : mM, post_X6_readEnd x33 [.inr (some 1)] M32 M34 → (P none M34)))) ∧ (¬ (M6 1 4) = (nI 5) → ((M6 1 4) = (nI 6) → ∃ x36 : mM × List Int32 × aPs, pre_X6_readNumber x36 [.inr (some 1)] M6 ∧ ∀ M37 : mM, post_X6_readNumber x36 [.inr (some 1)] M6 M37 → (∃ x38 : mM × List Int32 × aPs, pre_X6_readEnd x38 [.inr (some 1)] M37 ∧ ∀ M39 : mM, post_X6_readEnd x38 [.inr (some 1)] M37 M39 → (P none M39))) ∧ (¬ (M6 1 4) = (nI 6) → ((M6 1 4) = (nI 7) → ∃ x41 : mM × List Int32 × aPs, pre_X6_readNumber x41 [.inr (some 1)] M6 ∧ ∀ M42 : mM, post_X6_readNumber x41 [.inr (some 1)] M6 M42 → (∃ x43 : mM × List Int32 × aPs, pre_X6_readEnd x43 [.inr (some 1)] M42 ∧ ∀ M44 : mM, post_X6_readEnd x43 [.inr (some 1)] M42 M44 → (P none M44))) ∧ (¬ (M6 1 4) = (nI 7) → ((M6 1 4) = (nI 8) → ∃ x46 : mM × List Int32 × aPs, pre_X6_readNumber x46 [.inr (some 1)] M6 ∧ ∀ M47 : mM, post_X6_readNumber x46 [.inr (some 1)] M6 M47 → (∃ x48 : mM × List Int32 × aPs, pre_X6_readEnd x48 [.inr (some 1)] M47 ∧ ∀ M49 : mM, post_X6_readEnd x48 [.inr (some 1)] M47 M49 → (P none M49))) ∧ (¬ (M6 1 4) = (nI 8) → ∃ x50 : mM × List Int32 × aPs, pre_X6_readEnd x50 [.inr (some 1)] M6 ∧ ∀ M51 : mM, post_X6_readEnd x50 [.inr (some 1)] M6 M51 → (P none M51)))))))))))) :
    mRun (mSx g) (f_X6_read g) P (0, [some (.inr (some 1))], [], M) := mRun.vc (m_X6_read g) [] 26 h

theorem run_X6_read : mRunOf 1 t_X6_read f_X6_read := fun g as M P hT => by
  obtain ⟨t, ⟨rfl, h2, h3⟩, hP⟩ := hT
  refine ⟨Nat.le_of_ble_eq_true rfl, ?_⟩
  have hP : ∀ M', TS M M' t (sRead t) → P none M' := hP
  have f : ∀ (v2 v3 v5 v6 : Int32) (c : Nat), c ≠ 1 → mW1 (mW1 (mW1 (mW1 M 1 2 v2) 1 3 v3) 1 5 v5) 1 6 v6 c = M c := fun v2 v3 v5 v6 c hc => by rw [mW1_c hc, mW1_c hc, mW1_c hc, mW1_c hc]
  refine v_rd g M P ?_
  intro M1 M2 M3 M4
  have e1 : M4 1 1 = M 1 1 := by
    show mW1 (mW1 (mW1 (mW1 M 1 2 _) 1 3 _) 1 5 _) 1 6 _ 1 1 = _
    rw [mW1_k (by decide), mW1_k (by decide), mW1_k (by decide), mW1_k (by decide)]
  have e2 : M4 1 2 = nI 0 := by
    show mW1 (mW1 (mW1 (mW1 M 1 2 _) 1 3 _) 1 5 _) 1 6 _ 1 2 = _
    rw [mW1_k (by decide), mW1_k (by decide), mW1_k (by decide), mW1_s]
  have e3 : M4 1 3 = -1 := by
    show mW1 (mW1 (mW1 M1 1 3 _) 1 5 _) 1 6 _ 1 3 = _
    rw [mW1_k (by decide), mW1_k (by decide), mW1_s]
  have e5 : M4 1 5 = -1 := by
    show mW1 (mW1 M2 1 5 _) 1 6 _ 1 5 = _
    rw [mW1_k (by decide), mW1_s]
  have e6 : M4 1 6 = -1 := mW1_s
  have hT4 : RpTp M4 t := by
    unfold RpTp
    rw [e1, show M4 2 = M 2 from f _ _ _ _ 2 (by decide)]
    exact h2
  refine ⟨(M, t), ⟨rfl, hT4, h3, fun c hc => f _ _ _ _ c hc, e1, e2, e3, e5, e6⟩, fun M6 k6 => ?_⟩
  obtain ⟨k6, k6w⟩ := k6
  have k6' : TS M M6 t (sWord t) := k6
  have k6w' : M6 1 4 = oI (pWord t) := k6w
  rw [k6w']
  have fin : ∀ (s : aPs) (M7 : mM), TS M M7 t s → sEnd t s = sRead t → ∃ x : mM × List Int32 × aPs, pre_X6_readEnd x [.inr (some 1)] M7 ∧ ∀ M8 : mM, post_X6_readEnd x [.inr (some 1)] M7 M8 → P none M8 := fun s M7 h7 he => ⟨(M, t, s), ⟨rfl, h7.tp h2, h3, h7⟩, fun M9 k9 => hP M9 (by rw [← he]; exact k9)⟩
  cases hp : pWord t with
  | none =>
    have hw : sWord t = .inl (skip cB t 0) := by unfold sWord; rw [hp]
    have hr : sRead t = .inl (skip cB t 0) := by unfold sRead; rw [hp]; exact hw
    rw [hw] at k6'
    have last := fin _ M6 k6' (by rw [hr]; rfl)
    have no : ∀ n, n < 9 → ¬ oI none = nI n := fun n hn z => ne_m1 (show n < 2 ^ 31 by omega) z.symm
    exact ⟨fun z => absurd z (no 0 (by decide)), fun _ => ⟨fun z => absurd z (no 1 (by decide)), fun _ => ⟨fun z => absurd z (no 2 (by decide)), fun _ => ⟨fun z => absurd z (no 3 (by decide)), fun _ => ⟨fun z => absurd z (no 4 (by decide)), fun _ => ⟨fun z => absurd z (no 5 (by decide)), fun _ => ⟨fun z => absurd z (no 6 (by decide)), fun _ => ⟨fun z => absurd z (no 7 (by decide)), fun _ => ⟨fun z => absurd z (no 8 (by decide)), fun _ => last⟩⟩⟩⟩⟩⟩⟩⟩⟩
  | some w =>
    have hw := pWord_lt hp
    have hr : sRead t = sEnd t (sRest t w (sWord t)) := by unfold sRead; rw [hp]
    have hs : ∀ x, sWord t = .inr x → x.2.2.2 = -1 := fun x hx => by
      unfold sWord at hx
      rw [hp] at hx
      cases hx
      rfl
    have hn : ∀ x, sNum t (sWord t) = .inr x → x.2.2.2 = -1 := fun x hx => by
      cases hq : sWord t with
      | inl f => rw [hq] at hx; cases hx
      | inr y =>
        have hy := hs y hq
        rw [hq] at hx
        unfold sNum at hx
        dsimp only at hx
        split at hx
        · cases hx
        · cases hx
          exact hy
    have yes : ∀ n, n < 9 → (oI (some w) = nI n ↔ w = n) := fun n hn => nI_eq (by omega) (by omega)
    have num : sRest t w (sWord t) = sNum t (sWord t) → ∃ x : mM × List Int32 × aPs, pre_X6_readNumber x [.inr (some 1)] M6 ∧ ∀ M7 : mM, post_X6_readNumber x [.inr (some 1)] M6 M7 → ∃ x : mM × List Int32 × aPs, pre_X6_readEnd x [.inr (some 1)] M7 ∧ ∀ M8 : mM, post_X6_readEnd x [.inr (some 1)] M7 M8 → P none M8 := fun e => ⟨(M, t, sWord t), ⟨rfl, k6'.tp h2, h3, k6'⟩, fun M7 k7 => fin _ M7 k7 (by rw [hr, e])⟩
    rw [yes 0 (by decide), yes 1 (by decide), yes 2 (by decide), yes 3 (by decide), yes 4 (by decide), yes 5 (by decide), yes 6 (by decide), yes 7 (by decide), yes 8 (by decide)]
    have none' : (w = 2 ∨ w = 3 ∨ w = 4) → sRest t w (sWord t) = sWord t := fun h => by
      unfold sRest
      rw [if_neg (by omega), if_neg (by omega), if_neg (by omega)]
    have num' : (w = 0 ∨ w = 6 ∨ w = 7 ∨ w = 8) → sRest t w (sWord t) = sNum t (sWord t) := fun h => if_pos h
    refine ⟨fun z => num (num' (by omega)), fun z0 => ⟨fun z => ?_, fun z1 => ⟨fun z => fin _ M6 k6' (by rw [hr, none' (by omega)]), fun z2 => ⟨fun z => fin _ M6 k6' (by rw [hr, none' (by omega)]), fun z3 => ⟨fun z => fin _ M6 k6' (by rw [hr, none' (by omega)]), fun z4 => ⟨fun z => ?_, fun z5 => ⟨fun z => num (num' (by omega)), fun z6 => ⟨fun z => num (num' (by omega)), fun z7 => ⟨fun z => num (num' (by omega)), fun z8 => absurd hw (by omega)⟩⟩⟩⟩⟩⟩⟩⟩⟩
    · have e : sRest t w (sWord t) = sSuit t 5 (sNum t (sWord t)) := by
        unfold sRest
        rw [if_neg (by omega), if_pos z]
      refine ⟨(M, t, sWord t), ⟨rfl, k6'.tp h2, h3, k6'⟩, fun M7 k7 => ?_⟩
      have k7' : TS M M7 t (sNum t (sWord t)) := k7
      exact ⟨(M, t, sNum t (sWord t), 5), ⟨rfl, k7'.tp h2, h3, k7', (by decide : 0 < 5), (by decide : 5 ≤ 5), hn⟩, fun M8 k8 => fin _ M8 k8 (by rw [hr, e])⟩
    · have e : sRest t w (sWord t) = sNum t (sSuit t 4 (sWord t)) := by
        unfold sRest
        rw [if_neg (by omega), if_neg (by omega), if_pos z]
      refine ⟨(M, t, sWord t, 4), ⟨rfl, k6'.tp h2, h3, k6', (by decide : 0 < 4), (by decide : 4 ≤ 5), hs⟩, fun M7 k7 => ?_⟩
      have k7' : TS M M7 t (sSuit t 4 (sWord t)) := k7
      exact ⟨(M, t, sSuit t 4 (sWord t)), ⟨rfl, k7'.tp h2, h3, k7'⟩, fun M8 k8 => fin _ M8 k8 (by rw [hr, e])⟩
theorem ok_X6_read : mOK yX6_read cX6_read 1 (none) 7 t_X6_read := mOK.of f_X6_read (by decide) (fun _ => rfl) (fun g => mCodeOK kk_X6_read) (fun g => mFldL fk_RX6 rfl) (fun g idx v h => by cases h) (fun g idx v h => by cases h) (mCalL (l := l_X6_read) (List.forall_mem_cons.mpr ⟨mSite.V (idx := 35) ok_X6_readWord (by decide) (by decide) rv_X6_readWord wc_X6_readWord wk_RX6_35 wi_X6_readWord wl_X6_readWord wn_RX6 wd_X6_readWord, List.forall_mem_cons.mpr ⟨mSite.V (idx := 41) ok_X6_readNumber (by decide) (by decide) rv_X6_readNumber wc_X6_readNumber wk_RX6_41 wi_X6_readNumber wl_X6_readNumber wn_RX6 wd_X6_readNumber, List.forall_mem_cons.mpr ⟨mSite.V (idx := 44) ok_X6_readSuit (by decide) (by decide) rv_X6_readSuit wc_X6_readSuit wk_RX6_44 wi_X6_readSuit wl_X6_readSuit wn_RX6 wd_X6_readSuit, List.forall_mem_cons.mpr ⟨mSite.V (idx := 48) ok_X6_readEnd (by decide) (by decide) rv_X6_readEnd wc_X6_readEnd wk_RX6_48 wi_X6_readEnd wl_X6_readEnd wn_RX6 wd_X6_readEnd, fun _ h => absurd h List.not_mem_nil⟩⟩⟩⟩) (fun _ => rfl)) run_X6_read

