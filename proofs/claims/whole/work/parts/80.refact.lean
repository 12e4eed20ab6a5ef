/-! ===== THE REFERENCE: act ===== -/
theorem rdE_inl {t : List Int32} {b : Nat} (h : (rd4 t).1 = .inl b) : rdE t = .inl b := by
  unfold rdE
  rw [h]
theorem lx_nz {t : List Int32} {p : Nat} {q : Nat × Nat × Nat} (h0 : skip cB t p ≠ t.length) (h : lx t p = some q) : q.1 ≠ 0 := by
  unfold lx at h
  rw [if_neg h0] at h
  split at h
  · split at h
    · cases h
      exact (by decide : (2 : Nat) ≠ 0)
    · cases hw : lWd t (skip cB t p) (skip cL t (skip cB t p)) with
      | none => rw [hw] at h; cases h
      | some w =>
        rw [hw] at h
        cases h
        exact (by decide : (1 : Nat) ≠ 0)
  · split at h
    · split at h
      · cases h
        exact (by decide : (3 : Nat) ≠ 0)
      · cases h
    · cases h
theorem rdE_inr {t : List Int32} {p : Nat} (hp : p ≤ t.length) (h : (rd4 t).1 = .inr p) : rdE t = if skip cB t p < t.length then .inl (skip cB t p) else .inr t.length := by
  have hs := skip_le (f := cB) hp
  unfold rdE
  rw [h]
  dsimp only
  by_cases h0 : skip cB t p = t.length
  · have hx : lx t p = some (0, 0, t.length) := by unfold lx; rw [if_pos h0]
    rw [hx, if_neg (by omega)]
    exact if_pos rfl
  · rw [if_pos (by omega)]
    cases hx : lx t p with
    | none => rfl
    | some q => exact if_neg (lx_nz h0 hx)
def RDq (t : List Int32) : aPs → Prop
  | .inl b => rdE t = .inl b
  | .inr x => (∃ e, rdE t = .inr e) ∧ nI (rd1 t).1 = x.2.1 ∧ (rd3 t).2 = x.2.2.1 ∧ (rd4 t).2 = x.2.2.2
def RDp (t : List Int32) : aPs → Prop
  | .inl b => (rd4 t).1 = .inl b
  | .inr x => (rd4 t).1 = .inr x.1 ∧ x.1 ≤ t.length ∧ nI (rd1 t).1 = x.2.1 ∧ (rd3 t).2 = x.2.2.1 ∧ (rd4 t).2 = x.2.2.2
theorem rd_end {t : List Int32} {S : aPs} (h : RDp t S) : RDq t (sEnd t S) := by
  cases S with
  | inl b => exact rdE_inl h
  | inr x =>
    obtain ⟨h1, h2, h3, h4, h5⟩ := h
    have he := rdE_inr h2 h1
    unfold sEnd
    dsimp only
    by_cases hs : skip cB t x.1 < t.length
    · rw [if_pos hs] at he ⊢
      exact he
    · rw [if_neg hs] at he ⊢
      exact ⟨⟨_, he⟩, h3, h4, h5⟩
theorem tk_inl {t : List Int32} {b k h : Nat} : tk t (.inl b) k h = (0, .inl b) := rfl
theorem pNum_le {t : List Int32} {p : Nat} {q : Nat × Nat} (hp : p ≤ t.length) (h : pNum t p = some q) : q.2 ≤ t.length := by
  unfold pNum at h
  split at h
  · cases h
  · cases h
    exact (skip_le (f := cD) (skip_le (f := cB) hp).2).2
theorem pSuit_le {t : List Int32} {k p : Nat} {q : Nat × Nat} (hp : p ≤ t.length) (h : pSuit t k p = some q) : q.2 ≤ t.length := by
  unfold pSuit at h
  split at h
  · cases hl : ltr (bA t (skip cB t p)) k with
    | none => rw [hl] at h; cases h
    | some s =>
      rw [hl] at h
      cases h
      exact (skip_le (f := cL) (skip_le (f := cB) hp).2).2
  · cases h
theorem rd_eq (t : List Int32) : RDq t (sRead t) := by
  have hs0 := skip_le (f := cB) (Nat.zero_le t.length)
  have hs1 := skip_le (f := cL) hs0.2
  have h1 : rd1 t = _ := rdA (t := t)
  unfold sRead
  cases hp : pWord t with
  | none =>
    rw [hp] at h1
    dsimp only at h1
    have e2 : rd2 t = (.inl (skip cB t 0), -1) := by unfold rd2; rw [h1, if_neg (show ¬ (0 = 5) by decide)]
    have e3 : rd3 t = (.inl (skip cB t 0), nI 0) := by unfold rd3; rw [h1, if_pos (Or.inl rfl), e2]; rfl
    have e4 : rd4 t = (.inl (skip cB t 0), -1) := by unfold rd4; rw [h1, if_neg (show ¬ (0 = 1) by decide), e3, e2]
    dsimp only
    have : sWord t = .inl (skip cB t 0) := by unfold sWord; rw [hp]
    rw [this]
    exact rdE_inl (by rw [e4])
  | some w =>
    rw [hp] at h1
    dsimp only at h1 ⊢
    have hw : w < 9 := by
      have : fO (fun w => !dTx t w (skip cB t 0) (skip cL t (skip cB t 0))) 9 0 = some w := hp
      have := fO_lt this
      omega
    have hsw : sWord t = .inr (skip cL t (skip cB t 0), nI w, -1, -1) := by unfold sWord; rw [hp]
    rw [hsw]
    generalize skip cL t (skip cB t 0) = e at h1 hs1
    refine rd_end ?_
    have w1 : (rd1 t).1 = w := by rw [h1]
    -- no suit before the number
    have r2 : w ≠ 5 → rd2 t = (.inr e, -1) := fun n => by unfold rd2; rw [h1, if_neg n]
    by_cases c1 : w = 0 ∨ w = 6 ∨ w = 7 ∨ w = 8
    · have e2 := r2 (by omega)
      have hB := rdB (t := t) (p := e) hs1.2
      have hSR : sRest t w (.inr (e, nI w, -1, -1)) = sNum t (.inr (e, nI w, -1, -1)) := by unfold sRest; rw [if_pos c1]
      rw [hSR]
      have e3 : rd3 t = ((tk t (.inr e) 3 999999).2, nI (tk t (.inr e) 3 999999).1) := by unfold rd3; rw [w1, if_pos (by omega), e2]
      have e4 : rd4 t = ((rd3 t).1, (rd2 t).2) := by unfold rd4; rw [w1, if_neg (by omega)]
      cases hn : pNum t e with
      | none =>
        rw [hn] at hB
        have : sNum t (.inr (e, nI w, -1, -1)) = .inl (skip cB t e) := by unfold sNum; dsimp only; rw [hn]
        rw [this]
        show (rd4 t).1 = _
        rw [e4, e3, hB]
      | some q =>
        rw [hn] at hB
        have : sNum t (.inr (e, nI w, -1, -1)) = .inr (q.2, nI w, nI q.1, -1) := by unfold sNum; dsimp only; rw [hn]
        rw [this]
        exact ⟨by rw [e4, e3, hB], pNum_le hs1.2 hn, by rw [w1], by rw [e3, hB], by rw [e4, e2]⟩
    by_cases c2 : w = 1
    · subst c2
      have e2 := r2 (by decide)
      have hB := rdB (t := t) (p := e) hs1.2
      have hSR : sRest t 1 (.inr (e, nI 1, -1, -1)) = sSuit t 5 (sNum t (.inr (e, nI 1, -1, -1))) := by unfold sRest; rw [if_neg (by decide), if_pos rfl]
      rw [hSR]
      have e3 : rd3 t = ((tk t (.inr e) 3 999999).2, nI (tk t (.inr e) 3 999999).1) := by unfold rd3; rw [w1, if_pos (by decide), e2]
      have e4 : rd4 t = ((tk t (rd3 t).1 2 4).2, nI (tk t (rd3 t).1 2 4).1) := by unfold rd4; rw [w1, if_pos rfl]
      cases hn : pNum t e with
      | none =>
        rw [hn] at hB
        have : sNum t (.inr (e, nI 1, -1, -1)) = .inl (skip cB t e) := by unfold sNum; dsimp only; rw [hn]
        rw [this]
        show (rd4 t).1 = _
        rw [e4, e3, hB]
        rfl
      | some q =>
        rw [hn] at hB
        have hq := pNum_le hs1.2 hn
        have : sNum t (.inr (e, nI 1, -1, -1)) = .inr (q.2, nI 1, nI q.1, -1) := by unfold sNum; dsimp only; rw [hn]
        rw [this]
        have e3' : rd3 t = (.inr q.2, nI q.1) := by rw [e3, hB]
        have hC : tk t (.inr q.2) 2 4 = _ := rdC (t := t) (p := q.2) (k := 5) hq (Or.inr rfl)
        rw [e3'] at e4
        cases hu : pSuit t 5 q.2 with
        | none =>
          rw [hu] at hC
          have : sSuit t 5 (.inr (q.2, nI 1, nI q.1, -1)) = .inl (skip cB t q.2) := by unfold sSuit; dsimp only; rw [hu]
          rw [this]
          show (rd4 t).1 = _
          rw [e4, hC]
        | some u =>
          rw [hu] at hC
          have : sSuit t 5 (.inr (q.2, nI 1, nI q.1, -1)) = .inr (u.2, nI 1, nI q.1, nI u.1) := by unfold sSuit; dsimp only; rw [hu]
          rw [this]
          exact ⟨by rw [e4, hC], pSuit_le hq hu, by rw [w1], by rw [e3'], by rw [e4, hC]⟩
    by_cases c3 : w = 5
    · subst c3
      have hC : tk t (.inr e) 2 3 = _ := rdC (t := t) (p := e) (k := 4) hs1.2 (Or.inl rfl)
      have hSR : sRest t 5 (.inr (e, nI 5, -1, -1)) = sNum t (sSuit t 4 (.inr (e, nI 5, -1, -1))) := by unfold sRest; rw [if_neg (by decide), if_neg (by decide), if_pos rfl]
      rw [hSR]
      have e2 : rd2 t = ((tk t (.inr e) 2 3).2, nI (tk t (.inr e) 2 3).1) := by unfold rd2; rw [h1, if_pos rfl]
      have e3 : rd3 t = ((tk t (rd2 t).1 3 999999).2, nI (tk t (rd2 t).1 3 999999).1) := by unfold rd3; rw [w1, if_pos (by decide)]
      have e4 : rd4 t = ((rd3 t).1, (rd2 t).2) := by unfold rd4; rw [w1, if_neg (by decide)]
      cases hu : pSuit t 4 e with
      | none =>
        rw [hu] at hC
        have : sSuit t 4 (.inr (e, nI 5, -1, -1)) = .inl (skip cB t e) := by unfold sSuit; dsimp only; rw [hu]
        rw [this]
        show (rd4 t).1 = _
        rw [e4, e3, e2, hC]
        rfl
      | some u =>
        rw [hu] at hC
        have hq := pSuit_le hs1.2 hu
        have : sSuit t 4 (.inr (e, nI 5, -1, -1)) = .inr (u.2, nI 5, -1, nI u.1) := by unfold sSuit; dsimp only; rw [hu]
        rw [this]
        have e2' : rd2 t = (.inr u.2, nI u.1) := by rw [e2, hC]
        have hB := rdB (t := t) (p := u.2) hq
        rw [e2'] at e3
        cases hn : pNum t u.2 with
        | none =>
          rw [hn] at hB
          have : sNum t (.inr (u.2, nI 5, -1, nI u.1)) = .inl (skip cB t u.2) := by unfold sNum; dsimp only; rw [hn]
          rw [this]
          show (rd4 t).1 = _
          rw [e4, e3, hB]
        | some q =>
          rw [hn] at hB
          have : sNum t (.inr (u.2, nI 5, -1, nI u.1)) = .inr (q.2, nI 5, nI q.1, nI u.1) := by unfold sNum; dsimp only; rw [hn]
          rw [this]
          exact ⟨by rw [e4, e3, hB], pNum_le hq hn, by rw [w1], by rw [e3, hB], by rw [e4, e2']⟩
    · have e2 := r2 c3
      have hSR : sRest t w (.inr (e, nI w, -1, -1)) = .inr (e, nI w, -1, -1) := by unfold sRest; rw [if_neg c1, if_neg c2, if_neg c3]
      rw [hSR]
      have e3 : rd3 t = (.inr e, -1) := by unfold rd3; rw [w1, if_neg (by omega), e2]
      have e4 : rd4 t = (.inr e, -1) := by unfold rd4; rw [w1, if_neg c2, e3, e2]
      exact ⟨by rw [e4], hs1.2, by rw [w1], by rw [e3], by rw [e4]⟩
abbrev t_X8_act : mG → mT := pubM 0 F_act
theorem mo_X8_act : mMn t_X8_act := pubM_mono
theorem rv_X8_act : mHasR yX8_act 0 t_X8_act := pubM_recv rfl
def k_X8_act : List (Nat × mI) := [(0, .aload_n 0, 1, 0, 0, []),
  (1, .invokevirtual 308, 3, 0, 0, []),
  (4, .istore_n 1, 1, 1, 0, []),
  (5, .aload_n 0, 1, 0, 0, []),
  (6, .getfield 277, 3, 0, 0, []),
  (9, .ifCond .eq 11, 3, 20, 0, []),
  (12, .bipush (-100), 2, 0, -100, []),
  (14, .aload_n 0, 1, 0, 0, []),
  (15, .getfield 233, 3, 0, 0, []),
  (18, .isub, 1, 0, 0, []),
  (19, .ireturn, 1, 0, 0, []),
  (20, .aload_n 0, 1, 0, 0, []),
  (21, .getfield 311, 3, 0, 0, []),
  (24, .bipush 90, 2, 0, nI 90, []),
  (26, .if_icmp .ne 6, 3, 32, 0, []),
  (29, .bipush (-4), 2, 0, -4, []),
  (31, .ireturn, 1, 0, 0, []),
  (32, .aload_n 0, 1, 0, 0, []),
  (33, .iload_n 1, 1, 1, 0, []),
  (34, .invokevirtual 314, 3, 0, 0, []),
  (37, .ifCond .ne 6, 3, 43, 0, []),
  (40, .bipush (-3), 2, 0, -3, []),
  (42, .ireturn, 1, 0, 0, []),
  (43, .aload_n 0, 1, 0, 0, []),
  (44, .iload_n 1, 1, 1, 0, []),
  (45, .invokevirtual 317, 3, 0, 0, []),
  (48, .ifCond .ne 6, 3, 54, 0, []),
  (51, .bipush (-2), 2, 0, -2, []),
  (53, .ireturn, 1, 0, 0, []),
  (54, .aload_n 0, 1, 0, 0, []),
  (55, .iload_n 1, 1, 1, 0, []),
  (56, .invokevirtual 320, 3, 0, 0, []),
  (59, .ifCond .ne 6, 3, 65, 0, []),
  (62, .bipush (-6), 2, 0, -6, []),
  (64, .ireturn, 1, 0, 0, []),
  (65, .aload_n 0, 1, 0, 0, []),
  (66, .getfield 9, 3, 0, 0, []),
  (69, .aload_n 0, 1, 0, 0, []),
  (70, .getfield 311, 3, 0, 0, []),
  (73, .iload_n 1, 1, 1, 0, []),
  (74, .iastore, 1, 0, 0, []),
  (75, .aload_n 0, 1, 0, 0, []),
  (76, .getfield 13, 3, 0, 0, []),
  (79, .aload_n 0, 1, 0, 0, []),
  (80, .getfield 311, 3, 0, 0, []),
  (83, .aload_n 0, 1, 0, 0, []),
  (84, .getfield 298, 3, 0, 0, []),
  (87, .iastore, 1, 0, 0, []),
  (88, .aload_n 0, 1, 0, 0, []),
  (89, .getfield 16, 3, 0, 0, []),
  (92, .aload_n 0, 1, 0, 0, []),
  (93, .getfield 311, 3, 0, 0, []),
  (96, .aload_n 0, 1, 0, 0, []),
  (97, .getfield 301, 3, 0, 0, []),
  (100, .iastore, 1, 0, 0, []),
  (101, .aload_n 0, 1, 0, 0, []),
  (102, .getfield 19, 3, 0, 0, []),
  (105, .aload_n 0, 1, 0, 0, []),
  (106, .getfield 311, 3, 0, 0, []),
  (109, .aload_n 0, 1, 0, 0, []),
  (110, .getfield 100, 3, 0, 0, []),
  (113, .ifCond .ne 7, 3, 120, 0, []),
  (116, .iconst (-1), 1, 0, -1, []),
  (117, .goto 7, 3, 124, 0, []),
  (120, .aload_n 0, 1, 0, 0, []),
  (121, .getfield 103, 3, 0, 0, []),
  (124, .iastore, 1, 0, 0, []),
  (125, .aload_n 0, 1, 0, 0, []),
  (126, .dup, 1, 0, 0, []),
  (127, .getfield 311, 3, 0, 0, []),
  (130, .iconst 1, 1, 0, nI 1, []),
  (131, .iadd, 1, 0, 0, []),
  (132, .putfield 311, 3, 0, 0, []),
  (135, .aload_n 0, 1, 0, 0, []),
  (136, .iload_n 1, 1, 1, 0, []),
  (137, .aload_n 0, 1, 0, 0, []),
  (138, .getfield 298, 3, 0, 0, []),
  (141, .aload_n 0, 1, 0, 0, []),
  (142, .getfield 301, 3, 0, 0, []),
  (145, .invokevirtual 194, 3, 0, 0, []),
  (148, .aload_n 0, 1, 0, 0, []),
  (149, .getfield 311, 3, 0, 0, []),
  (152, .ireturn, 1, 0, 0, [])]
theorem kk_X8_act : (k_X8_act.all fun e => mChk cX8_act e.1 e.2) = true := by decide +kernel
def l_X8_act : List (Nat × Nat × (mG → mT)) := [(3 * 308, 0 + 1, t_X8_read), (3 * 314, 1 + 1, t_X8_isTime), (3 * 317, 1 + 1, t_X8_isNumber), (3 * 320, 1 + 1, t_X8_isFair), (3 * 194, 3 + 1, t_X8_doesAct)]
def f_X8_act (g : mG) : mF := (mLk k_X8_act, mLk fl_RX8, mLk (l_X8_act.map fun e => (e.1, e.2.1, e.2.2 g)), mLk ([] : List (Nat × mV)), mLk ([] : List (Nat × mV)), some .int)
theorem m_X8_act (g : mG) : mMono (f_X8_act g) := mMonoL (g := g) (l := l_X8_act) (List.forall_mem_cons.mpr ⟨mo_X8_read, List.forall_mem_cons.mpr ⟨mo_X8_isTime, List.forall_mem_cons.mpr ⟨mo_X8_isNumber, List.forall_mem_cons.mpr ⟨mo_X8_isFair, List.forall_mem_cons.mpr ⟨mo_X8_doesAct, fun _ h => absurd h List.not_mem_nil⟩⟩⟩⟩⟩) rfl

theorem w_act_0 (g : mG) (M : mM) (P : mP) 
    (h : ∃ x1 : List Int32, pre_X8_read x1 [.inr (some 50)] M ∧ ∀ (r3 : Int32) (M2 : mM), post_X8_read x1 [.inr (some 50)] M r3 M2 → (((M2 50 40) = 0 → mRun (mSx g) (f_X8_act g) P (20, [some (.inr (some 50)), some (.inl r3)], [], M2)) ∧ (¬ ((M2 50 40) = 0) → P (some (.inl ((-100) - (M2 50 35)))) M2))) :
    mRun (mSx g) (f_X8_act g) P (0, [some (.inr (some 50)), none], [], M) := mRun.vc (m_X8_act g) [20] 11 h

theorem w_act_20 (g : mG) (M : mM) (P : mP) (w : Int32)
    (h : (¬ (M 50 0) = (nI 90) → ∃ x2 : aZ × Nat, pre_X8_isTime x2 [.inr (some 50), .inl w] M ∧ ∀ (r4 : Int32) (M3 : mM), post_X8_isTime x2 [.inr (some 50), .inl w] M r4 M3 → ((¬ r4 = 0 → ∃ x6 : Nat × Int32, pre_X8_isNumber x6 [.inr (some 50), .inl w] M3 ∧ ∀ (r8 : Int32) (M7 : mM), post_X8_isNumber x6 [.inr (some 50), .inl w] M3 r8 M7 → ((¬ r8 = 0 → ∃ x10 : aZ × Nat × Int32 × Int32, pre_X8_isFair x10 [.inr (some 50), .inl w] M7 ∧ ∀ (r12 : Int32) (M11 : mM), post_X8_isFair x10 [.inr (some 50), .inl w] M7 r12 M11 → ((¬ r12 = 0 → mRun (mSx g) (f_X8_act g) P (65, [some (.inr (some 50)), some (.inl w)], [], M11)) ∧ (¬ (¬ r12 = 0) → P (some (.inl (-6))) M11))) ∧ (¬ (¬ r8 = 0) → P (some (.inl (-2))) M7))) ∧ (¬ (¬ r4 = 0) → P (some (.inl (-3))) M3))) ∧ (¬ (¬ (M 50 0) = (nI 90)) → P (some (.inl (-4))) M)) :
    mRun (mSx g) (f_X8_act g) P (20, [some (.inr (some 50)), some (.inl w)], [], M) := mRun.vc (m_X8_act g) [65] 18 h

set_option maxRecDepth 100000 in
theorem w_act_65 (g : mG) (M : mM) (P : mP) (w : Int32)
    (h : vp_in (M 50 0) 90 ∧ (let M1 : mM := mW1 M 51 ((M 50 0).toNatClampNeg) w; vp_in (M 50 0) 90 ∧ (let M2 : mM := mW1 M1 52 ((M 50 0).toNatClampNeg) (M 50 38); vp_in (M 50 0) 90 ∧ (let M3 : mM := mW1 M2 53 ((M 50 0).toNatClampNeg) (M 50 39); (¬ (M 50 5) = 0 → vp_in (M 50 0) 90 ∧ (let M5 : mM := mW1 M3 54 ((M 50 0).toNatClampNeg) (M 50 6); let M6 : mM := mW1 M5 50 0 ((M 50 0) + (nI 1)); ∃ x7 : aT × Nat × Int32 × Int32, pre_X8_doesAct x7 [.inr (some 50), .inl w, .inl (M 50 38), .inl (M 50 39)] M6 ∧ ∀ M8 : mM, post_X8_doesAct x7 [.inr (some 50), .inl w, .inl (M 50 38), .inl (M 50 39)] M6 M8 → (P (some (.inl (M8 50 0))) M8))) ∧ (¬ (¬ (M 50 5) = 0) → vp_in (M 50 0) 90 ∧ (let M9 : mM := mW1 M3 54 ((M 50 0).toNatClampNeg) (-1); let M10 : mM := mW1 M9 50 0 ((M 50 0) + (nI 1)); ∃ x11 : aT × Nat × Int32 × Int32, pre_X8_doesAct x11 [.inr (some 50), .inl w, .inl (M 50 38), .inl (M 50 39)] M10 ∧ ∀ M12 : mM, post_X8_doesAct x11 [.inr (some 50), .inl w, .inl (M 50 38), .inl (M 50 39)] M10 M12 → (P (some (.inl (M12 50 0))) M12))))))) :
    mRun (mSx g) (f_X8_act g) P (65, [some (.inr (some 50)), some (.inl w)], [], M) := mRun.vc (m_X8_act g) [] 46 h


theorem RmT_fr0 {M M' : mM} {T : aT} (h : RmT M T) (hk : ∀ k, 0 < k → k ≤ 30 → M' 50 k = M 50 k) (hc : ∀ c, 55 ≤ c → c ≤ 76 → M' c = M c) (hl : T.2.2.1.2.2.2.2.length ≤ 32) : RmT M' T := by
  obtain ⟨⟨h1, h2, h3, h4, h5⟩, hB, hP, hS, hL⟩ := h
  exact ⟨⟨(hk 5 (by decide) (by decide)).trans h1, (hk 6 (by decide) (by decide)).trans h2, (hk 7 (by decide) (by decide)).trans h3, (hk 14 (by decide) (by decide)).trans h4, (hk 15 (by decide) (by decide)).trans h5⟩, RmB_fr hB (fun k a b => hk k (by omega) (by omega)) (fun c hc' => hc c (by omega) (by omega)), RmP_fr hP (hk 19 (by decide) (by decide)) (fun c a b => hc c (by omega) (by omega)) hl, RmSc_fr hS (fun k a b => hk k (by omega) (by omega)) (fun c hc' => hc c (by omega) (by omega)), fun k => (congrFun (hc 60 (by decide) (by decide)) _).trans (hL k)⟩
theorem actM_65 (g : mG) (M0 M : mM) (P : mP) (z : aZ) (w : Nat) (n s : Int32) (hR : RpM M ([], z.2)) (hI : zInv z) (hF : FrM M0 M) (e38 : M 50 38 = n) (e39 : M 50 39 = s) (hl : z.2.1.length < 90) (hf : fit (zT z.2.1) (w, n, s))
    (hP : ∀ M', RpM M' ([], z.2.1 ++ [((w, n, s), turnI (zT z.2.1))], z.2.2) → FrM M0 M' → P (some (.inl (nI (z.2.1.length + 1)))) M') :
    mRun (mSx g) (f_X8_act g) P (65, [some (.inr (some 50)), some (.inl (nI w))], [], M) := by
  have hTI := hI.T
  obtain ⟨l0, l1⟩ := hR.2.1
  have l0' : M 50 0 = nI z.2.1.length := l0
  have hT : RmT M (zT z.2.1) := hR.T
  have e5 : M 50 5 = nI (zT z.2.1).1.1 := hT.1.1
  have e6 : M 50 6 = turnI (zT z.2.1) := hT.1.2.1
  have cl : (nI z.2.1.length).toNatClampNeg = z.2.1.length := nI_clamp (by omega)
  have vl : vp_in (nI z.2.1.length) 90 := vp_in_nI hl (by decide)
  have hlen : (z.2.1 ++ [((w, n, s), turnI (zT z.2.1))]).length = z.2.1.length + 1 := by rw [List.length_append, List.length_singleton]
  have go : ∀ (tv : Int32) (M6 : mM), tv = turnI (zT z.2.1) → M6 = mW1 (mW1 (mW1 (mW1 (mW1 M 51 z.2.1.length (nI w)) 52 z.2.1.length n) 53 z.2.1.length s) 54 z.2.1.length tv) 50 0 (nI (z.2.1.length + 1)) → ∃ x7 : aT × Nat × Int32 × Int32, pre_X8_doesAct x7 [.inr (some 50), .inl (nI w), .inl n, .inl s] M6 ∧ ∀ M8 : mM, post_X8_doesAct x7 [.inr (some 50), .inl (nI w), .inl n, .inl s] M6 M8 → P (some (.inl (M8 50 0))) M8 := fun tv M6 htv hM6 => by
    have f50 : ∀ k, k ≠ 0 → M6 50 k = M 50 k := fun k hk => by
      rw [hM6, mW1_k hk, mW1_c (by decide), mW1_c (by decide), mW1_c (by decide), mW1_c (by decide)]
    have fc : ∀ c, ¬ (50 ≤ c ∧ c ≤ 54) → M6 c = M c := fun c hc => by
      rw [hM6, mW1_c (by omega), mW1_c (by omega), mW1_c (by omega), mW1_c (by omega), mW1_c (by omega)]
    have f0 : M6 50 0 = nI (z.2.1.length + 1) := by rw [hM6, mW1_s]
    have hrow : ∀ i, M6 51 i = (if i = z.2.1.length then nI w else M 51 i) ∧ M6 52 i = (if i = z.2.1.length then n else M 52 i) ∧ M6 53 i = (if i = z.2.1.length then s else M 53 i) ∧ M6 54 i = (if i = z.2.1.length then tv else M 54 i) := fun i => by
      rw [hM6]
      by_cases e : i = z.2.1.length
      · rw [e, if_pos rfl, if_pos rfl, if_pos rfl, if_pos rfl]
        simp (disch := decide) only [mW1_c, mW1_s]
        exact ⟨trivial, trivial, trivial, trivial⟩
      · rw [if_neg e, if_neg e, if_neg e, if_neg e]
        refine ⟨?_, ?_, ?_, ?_⟩
        · rw [mW1_c (by decide), mW1_c (by decide), mW1_c (by decide), mW1_c (by decide), mW1_k e]
        · rw [mW1_c (by decide), mW1_c (by decide), mW1_c (by decide), mW1_k e, mW1_c (by decide)]
        · rw [mW1_c (by decide), mW1_c (by decide), mW1_k e, mW1_c (by decide), mW1_c (by decide)]
        · rw [mW1_c (by decide), mW1_k e, mW1_c (by decide), mW1_c (by decide), mW1_c (by decide)]
    clear hM6
    have hL6 : RmL M6 (z.2.1.length + 1) (z.2.1 ++ [((w, n, s), turnI (zT z.2.1))]) := fun i hi => by
      obtain ⟨r1, r2, r3, r4⟩ := hrow i
      rw [r1, r2, r3, r4]
      by_cases e : i = z.2.1.length
      · rw [if_pos e, if_pos e, if_pos e, if_pos e, e, eA_new]
        exact ⟨rfl, rfl, rfl, htv⟩
      · rw [if_neg e, if_neg e, if_neg e, if_neg e, eA_old (by omega)]
        exact l1 i (by show i < z.2.1.length; omega)
    refine ⟨(zT z.2.1, w, n, s), ⟨rfl, RmT_fr0 hT (fun k h0 hk => f50 k (by omega)) (fun c a b => fc c (by omega)) hTI.len, hTI, hf⟩, fun M8 h8 => ?_⟩
    obtain ⟨k1, k2⟩ := h8
    dsimp only at k1
    have e0 : M8 50 0 = nI (z.2.1.length + 1) := (k2.2 0 (by decide)).trans f0
    rw [e0]
    exact hP M8 (hR.newlog (l := z.2.1 ++ [((w, n, s), turnI (zT z.2.1))]) (by rw [hlen]; exact e0) (by rw [hlen]; exact RmL_fr hL6 (fun c a b => k2.1 c (by omega))) (by rw [zT_add]; exact k1) (fun k hk => (k2.2 k (by omega)).trans (f50 k (by omega))) (fun c hc => (k2.1 c (by omega)).trans (fc c (by omega)))) (hF.trans (fun c hc => (k2.1 c (by omega)).trans (fc c (by omega))))
  refine w_act_65 g M P _ ?_
  rw [l0', cl, e38, e39, e5, e6, nI_add]
  refine ⟨vl, ?_⟩
  intro M1
  refine ⟨vl, ?_⟩
  intro M2
  refine ⟨vl, ?_⟩
  intro M3
  have hp0 : nI (zT z.2.1).1.1 = 0 ↔ (zT z.2.1).1.1 = 0 := nI_at2 hTI.1.1 (by decide)
  refine ⟨fun _ => ⟨vl, go _ _ rfl rfl⟩, fun k => ⟨vl, go (-1) _ ?_ rfl⟩⟩
  rw [turnI_0 (hp0.mp (Classical.not_not.mp k))]
theorem run_X8_act : mRunOf 2 t_X8_act f_X8_act := runM0 (by decide) (fun g M P z hR hI hP => by
  have hT : RmTp M z.1 := hR.1
  have hlen := hI.1.1
  refine w_act_0 g M P ⟨z.1, ⟨rfl, hT, hlen, fun b hb => (hI.1.2 b hb).1⟩, fun r M2 h2 => ?_⟩
  obtain ⟨hr, hW, e38, e39, e33, hN⟩ := h2
  have hF2 : FrM M M2 := fun c hc => hN.1 c (by omega)
  have hR2 : RpM M2 ([], z.2) := by
    obtain ⟨-, ⟨l0, l1⟩, ⟨u5, u6⟩, hT, hS⟩ := hR
    refine ⟨⟨e33, fun j hj => absurd hj (Nat.not_lt_zero j)⟩, ⟨(hN.2 0 (by decide)).trans l0, RmL_fr l1 (fun c a b => hN.1 c (by omega))⟩, ⟨(hN.2 41 (by decide)).trans u5, fun l hl i hi => ?_⟩, RmT_fr hT (fun k hk => hN.2 k (by omega)) (fun c a b => hN.1 c (by omega)) hI.T.len, fun q hq => ?_⟩
    · rw [hN.1 79 (by decide), hN.1 80 (by decide), hN.1 81 (by decide), hN.1 82 (by decide)]
      exact u6 l hl i hi
    · rw [hN.1 83 (by decide), hN.1 84 (by decide), hN.1 (86 + q) (by omega)]
      exact hS q hq
  have hI2 : zInv ([], z.2) := ⟨⟨Nat.zero_le _, fun b hb => absurd hb List.not_mem_nil⟩, hI.2⟩
  have hq := rd_eq z.1
  cases hs : sRead z.1 with
  | inl b =>
    rw [hs] at hq
    have hq' : rdE z.1 = .inl b := hq
    rw [show F_act z [] = (-100 - nI b, [], z.2) by simp only [F_act, hs]] at hP
    rw [hq'] at hW
    obtain ⟨e40, e35⟩ := hW
    rw [e40, e35]
    exact ⟨fun y => absurd y (by decide), fun _ => hP _ _ rfl hR2 hF2⟩
  | inr x =>
    rw [hs] at hq
    obtain ⟨⟨e, he⟩, q1, q2, q3⟩ := hq
    rw [he] at hW
    have e40 : M2 50 40 = 0 := hW
    obtain ⟨w, hw, hxw, hok⟩ := sRead_ok hs
    have hub : ub x.2.1 = w := by rw [hxw, ub_nI (by omega)]
    have hr' : r = nI w := by rw [hr, q1, hxw]
    rw [show F_act z [] = (if rRef (zT z.2.1) z.2.1.length w x.2.2.1 = 0 then (if dFair (zT z.2.1) w x.2.2.1 x.2.2.2 = true then (nI (z.2.1.length + 1), [], z.2.1 ++ [((w, x.2.2.1, x.2.2.2), turnI (zT z.2.1))], z.2.2) else (-6, [], z.2)) else (rRef (zT z.2.1) z.2.1.length w x.2.2.1, [], z.2)) by simp only [F_act, hs, hub]] at hP
    rw [q2] at e38
    rw [q3] at e39
    rw [e40, hr']
    refine ⟨fun _ => ?_, fun y => absurd rfl y⟩
    have hl90 := hI.2.1.1
    have l0 : M2 50 0 = nI z.2.1.length := hR2.2.1.1
    generalize hn : x.2.2.1 = n at *
    generalize hsu : x.2.2.2 = s at *
    refine w_act_20 g M2 P _ ?_
    rw [l0, nI_eq (by omega) (by decide)]
    refine ⟨fun n90 => ?_, fun y90 => ?_⟩
    · have hlt : z.2.1.length < 90 := by omega
      refine ⟨(([], z.2), w), ⟨rfl, hw, hR2, hI2⟩, fun r4 M3 h3 => ?_⟩
      obtain ⟨hv, h3⟩ := h3
      rw [h3, show r4 = mb (dTime (zT z.2.1) w = true) from hv, mb_0]
      refine ⟨fun ht => ⟨(w, n), ⟨rfl, hw, e38⟩, fun r8 M7 h7 => ?_⟩, fun ht => ?_⟩
      · have ht := Classical.not_not.mp ht
        obtain ⟨hv, h7⟩ := h7
        rw [h7, show r8 = mb (dNum w n = true) from hv, mb_0]
        refine ⟨fun hd => ?_, fun hd => ?_⟩
        · have hd := Classical.not_not.mp hd
          have hr0 : rRef (zT z.2.1) z.2.1.length w n = 0 := by unfold rRef; rw [if_neg (by omega), if_pos ht, if_pos hd]
          rw [hr0, if_pos rfl] at hP
          refine ⟨(([], z.2), w, n, s), ⟨rfl, hw, hR2, hI2, ht, hd, e38, e39, fun z5 => ?_⟩, fun r12 M11 h11 => ?_⟩
          · have z5' : w = 5 := z5
            subst z5'
            obtain ⟨-, u, hu, hus⟩ := hok.2.2.1 rfl
            have hd5 : (decide (0 ≤ n) && decide (n < nI 8)) = true := by
              have : dNum 5 n = (decide (0 ≤ n) && decide (n < nI 8)) := by unfold dNum; rw [if_neg (by decide), if_pos rfl]
              rw [← this]
              exact hd
            rw [Bool.and_eq_true, decide_eq_true_eq, decide_eq_true_eq] at hd5
            rcases ix_cs n (n := 8) (by decide) with ⟨h, -⟩ | ⟨j, hj, hnj, -⟩
            · exfalso
              rcases h with h | h
              · exact absurd hd5.1 (Int32.not_le.mpr h)
              · exact absurd hd5.2 (Int32.not_lt.mpr h)
            · refine ⟨?_, ?_⟩
              · show ub n < 8
                rw [hnj, ub_nI (by omega)]
                exact hj
              · show ub s < 4
                rw [hus, ub_nI (by omega)]
                exact hu
          · obtain ⟨hv, hR11, hF11⟩ := h11
            rw [show r12 = mb (dFair (zT z.2.1) w n s = true) from hv, mb_0]
            refine ⟨fun hfr => ?_, fun hfr => ?_⟩
            · have hfr := Classical.not_not.mp hfr
              rw [if_pos hfr] at hP
              exact actM_65 g M M11 P z w n s hR11 hI (hF2.trans hF11.M) ((hF11.2 38 (by decide) (by decide)).trans e38) ((hF11.2 39 (by decide) (by decide)).trans e39) hlt (fit_of hI.T hw ht hd hfr hok) (fun M' a b => hP _ M' rfl a b)
            · rw [if_neg (fun y => hfr (fun q => q y))] at hP
              exact hP _ _ rfl hR11 (hF2.trans hF11.M)
        · have hr2 : rRef (zT z.2.1) z.2.1.length w n = -2 := by unfold rRef; rw [if_neg (by omega), if_pos ht, if_neg (fun y => hd (fun q => q y))]
          rw [hr2, if_neg (by decide)] at hP
          exact hP _ _ rfl hR2 hF2
      · have hr3 : rRef (zT z.2.1) z.2.1.length w n = -3 := by unfold rRef; rw [if_neg (by omega), if_neg (fun y => ht (fun q => q y))]
        rw [hr3, if_neg (by decide)] at hP
        exact hP _ _ rfl hR2 hF2
    · have y90' := Classical.not_not.mp y90
      have hr4 : rRef (zT z.2.1) z.2.1.length w n = -4 := by unfold rRef; rw [if_pos (by omega)]
      rw [hr4, if_neg (by decide)] at hP
      exact hP _ _ rfl hR2 hF2)

theorem ok_X8_act : mOK yX8_act cX8_act 2 (some .int) 35 t_X8_act := mOK.of f_X8_act (by decide) (fun _ => rfl) (fun g => mCodeOK kk_X8_act) (fun g => mFldL fk_RX8 rfl) (fun g idx v h => by cases h) (fun g idx v h => by cases h) (mCalL (l := l_X8_act) (List.forall_mem_cons.mpr ⟨mSite.V (idx := 308) ok_X8_read (by decide) (by decide) rv_X8_read wc_X8_read wk_RX8_308 wi_X8_read wl_X8_read wn_RX8 wd_X8_read, List.forall_mem_cons.mpr ⟨mSite.V (idx := 314) ok_X8_isTime (by decide) (by decide) rv_X8_isTime wc_X8_isTime wk_RX8_314 wi_X8_isTime wl_X8_isTime wn_RX8 wd_X8_isTime, List.forall_mem_cons.mpr ⟨mSite.V (idx := 317) ok_X8_isNumber (by decide) (by decide) rv_X8_isNumber wc_X8_isNumber wk_RX8_317 wi_X8_isNumber wl_X8_isNumber wn_RX8 wd_X8_isNumber, List.forall_mem_cons.mpr ⟨mSite.V (idx := 320) ok_X8_isFair (by decide) (by decide) rv_X8_isFair wc_X8_isFair wk_RX8_320 wi_X8_isFair wl_X8_isFair wn_RX8 wd_X8_isFair, List.forall_mem_cons.mpr ⟨mSite.V (idx := 194) ok_X8_doesAct (by decide) (by decide) rv_X8_doesAct wc_X8_doesAct wk_RX8_194 wi_X8_doesAct wl_X8_doesAct wn_RX8 wd_X8_doesAct, fun _ h => absurd h List.not_mem_nil⟩⟩⟩⟩⟩) (fun _ => rfl)) run_X8_act

