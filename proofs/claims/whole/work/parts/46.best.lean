/-! ===== CLASS TrickHouse: open, gains, best, drawn, chance ===== -/
def late (T : aT) : Prop := T.1.1 = 2 ∧ 20 ≤ T.2.2.1.2.2.2.2.length
theorem late_len {n : Nat} (h : n < 32) : nI 3 < nI 8 - nI n / nI 4 ↔ ¬ 20 ≤ n := by
  rw [nI_div4 (by omega), pk_sub (by omega), nI_ltI (by decide) (by omega)]
  omega
theorem FrP_C {M M' : mM} (h : FrP 29 M M') : FrC M M' := fun c hc => h c (by omega)
theorem RpC_thought {M M' : mM} {z : aZ} (h : RpC M z) (k : FrP 29 M M') : RpC M' z := RpC_fr h (fun c hc _ => k c (by omega))
/-- what the phase and the cards say, as the class holds them -/
theorem RpC_play {M : mM} {z : aZ} (h : RpC M z) : M 13 3 = nI (zT z.2.1).1.1 ∧ M 16 7 = nI (zT z.2.1).2.2.1.2.2.2.2.length := ⟨h.2.2.2.1.1.1, h.2.2.2.1.2.2.1.1.1⟩
theorem play00 {M : mM} {T : aT} (h : RpT 13 M T) (hI : tInv T) (k : T.1.1 = 2) : RpP 16 M T.2.2.1.1 T.2.2.1.2.1 0 0 T.2.2.1.2.2.2.2 := by
  obtain ⟨-, -, h3, h4⟩ := hI.play k
  have := h.2.2.1
  unfold RpS at this
  rw [h3, h4] at this
  exact this
def dLate (T : aT) : Bool := decide (T.1.1 = 2) && decide (20 ≤ T.2.2.1.2.2.2.2.length)
theorem dLate_t {T : aT} : dLate T = true ↔ T.1.1 = 2 ∧ 20 ≤ T.2.2.1.2.2.2.2.length := by
  unfold dLate
  simp
def tO (T : aT) : Nat := aO T.2.2.1.1 T.2.2.1.2.1 T.2.2.1.2.2.2.2
def F_open (z : aZ) (as : List Int32) : Int32 × aZ := (match as with
  | [] => if dLate (zT z.2.1) = true then nI (tO (zT z.2.1)) else -3
  | _ => 0, z)
abbrev t_X7_open : mG → mT := pub 0 F_open
theorem mo_X7_open : mMn t_X7_open := pub_mono
theorem rv_X7_open : mHasR yX7_open 0 t_X7_open := pub_recv rfl
def k_X7_open : List (Nat × mI) := [(0, .aload_n 0, 1, 0, 0, []),
  (1, .getfield 29, 3, 0, 0, []),
  (4, .invokevirtual 218, 3, 0, 0, []),
  (7, .ifCond .eq 10, 3, 17, 0, []),
  (10, .aload_n 0, 1, 0, 0, []),
  (11, .invokevirtual 222, 3, 0, 0, []),
  (14, .goto 5, 3, 19, 0, []),
  (17, .bipush (-3), 2, 0, -3, []),
  (19, .ireturn, 1, 0, 0, [])]
theorem kk_X7_open : (k_X7_open.all fun e => mChk cX7_open e.1 e.2) = true := by decide +kernel
def l_X7_open : List (Nat × Nat × (mG → mT)) := [(3 * 218, 0 + 1, t_X5_isNearEnd), (3 * 222, 0 + 1, t_X7_openNow)]
def f_X7_open (g : mG) : mF := (mLk k_X7_open, mLk fl_RX7, mLk (l_X7_open.map fun e => (e.1, e.2.1, e.2.2 g)), mLk ([] : List (Nat × mV)), mLk ([] : List (Nat × mV)), some .int)
theorem m_X7_open (g : mG) : mMono (f_X7_open g) := mMonoL (g := g) (l := l_X7_open) (List.forall_mem_cons.mpr ⟨mo_X5_isNearEnd, List.forall_mem_cons.mpr ⟨mo_X7_openNow, fun _ h => absurd h List.not_mem_nil⟩⟩) rfl

theorem v_open_0 (g : mG) (M : mM) (P : mP) 
    (h : (¬ (M 13 3) = (nI 2) → ((nI 0) = 0 ∨ (nI 0) = 1) ∧ (mRun (mSx g) (f_X7_open g) P (7, [some (.inr (some 0))], [.inl (nI 0)], M))) ∧ (¬ (¬ (M 13 3) = (nI 2)) → ¬ (nI 4) = 0 ∧ (((((nI 3) < ((nI 8) - ((M 16 7) / (nI 4))) → ((nI 0) = 0 ∨ (nI 0) = 1) ∧ (mRun (mSx g) (f_X7_open g) P (7, [some (.inr (some 0))], [.inl (nI 0)], M))) ∧ (¬ ((nI 3) < ((nI 8) - ((M 16 7) / (nI 4)))) → ((nI 1) = 0 ∨ (nI 1) = 1) ∧ (mRun (mSx g) (f_X7_open g) P (7, [some (.inr (some 0))], [.inl (nI 1)], M)))))))) :
    mRun (mSx g) (f_X7_open g) P (0, [some (.inr (some 0))], [], M) := mRun.vc (m_X7_open g) [7] 4 h

theorem v_open_7 (g : mG) (M : mM) (P : mP) (b : Int32)
    (h : (b = 0 → P (some (.inl (-3))) M) ∧ (¬ (b = 0) → ∃ x2 : aX × (Nat → Int32) × List Nat, pre_X7_openNow x2 [.inr (some 0)] M ∧ ∀ (r4 : Int32) (M3 : mM), post_X7_openNow x2 [.inr (some 0)] M r4 M3 → (P (some (.inl r4)) M3))) :
    mRun (mSx g) (f_X7_open g) P (7, [some (.inr (some 0))], [.inl b], M) := mRun.vc (m_X7_open g) [] 5 h

theorem near_cs {M : mM} {z : aZ} (hR : RpC M z) (hI : zInv z) {X : Int32 → Prop} (h : ∀ b, b = mb (dLate (zT z.2.1) = true) → X b) :
    (¬ M 13 3 = nI 2 → (nI 0 = 0 ∨ nI 0 = 1) ∧ X (nI 0)) ∧ (¬ (¬ M 13 3 = nI 2) → ¬ nI 4 = 0 ∧ ((nI 3 < nI 8 - M 16 7 / nI 4 → (nI 0 = 0 ∨ nI 0 = 1) ∧ X (nI 0)) ∧ (¬ nI 3 < nI 8 - M 16 7 / nI 4 → (nI 1 = 0 ∨ nI 1 = 1) ∧ X (nI 1)))) := by
  obtain ⟨e3, e7⟩ := RpC_play hR
  have hT := hI.T
  rw [e3, e7]
  have hph : nI (zT z.2.1).1.1 = nI 2 ↔ (zT z.2.1).1.1 = 2 := nI_at2 hT.1.1 (by decide)
  refine ⟨fun k => ⟨Or.inl rfl, h _ (mb_f (fun w => k (hph.mpr (dLate_t.mp w).1))).symm⟩, fun k => ⟨n4, ?_⟩⟩
  have k' := hph.mp (Classical.not_not.mp k)
  have hl := (hT.play k').2.1
  rw [late_len hl]
  exact ⟨fun w => ⟨Or.inl rfl, h _ (mb_f (fun w2 => w (dLate_t.mp w2).2)).symm⟩, fun w => ⟨Or.inr rfl, h _ (mb_t (dLate_t.mpr ⟨k', Classical.not_not.mp w⟩)).symm⟩⟩
theorem run_X7_open : mRunOf 1 t_X7_open f_X7_open := runC0 (by decide) (fun g M P z hR hI hP => by
  have hT := hI.T
  have hQ : ∀ v M', v = (if dLate (zT z.2.1) = true then nI (tO (zT z.2.1)) else -3) → RpC M' z → FrC M M' → P (some (.inl v)) M' := fun v M' e => hP v M' e
  refine v_open_0 g M P (near_cs hR hI (fun b hb => v_open_7 g M P b ?_))
  rw [hb]
  by_cases hl : dLate (zT z.2.1) = true
  · rw [mb_t hl]
    rw [if_pos hl] at hQ
    obtain ⟨l1, l2⟩ := dLate_t.mp hl
    refine ⟨fun h => absurd h (by decide), fun _ => ⟨((zT z.2.1).2.2.1.1, (zT z.2.1).2.2.1.2.1, (zT z.2.1).2.2.1.2.2.2.2), ⟨rfl, play00 hR.2.2.2.1 hT l1, (hT.play l1).1, l2⟩, fun r M2 hr => ?_⟩⟩
    exact hQ r M2 hr.1 (RpC_thought hR hr.2) (FrP_C hr.2)
  · rw [mb_f hl]
    rw [if_neg hl] at hQ
    exact ⟨fun _ => hQ _ _ rfl hR FrC.refl, fun h => absurd rfl h⟩)

theorem ok_X7_open : mOK yX7_open cX7_open 1 (some .int) 19 t_X7_open := mOK.of f_X7_open (by decide) (fun _ => rfl) (fun g => mCodeOK kk_X7_open) (fun g => mFldL fk_RX7 rfl) (fun g idx v h => by cases h) (fun g idx v h => by cases h) (mCalL (l := l_X7_open) (List.forall_mem_cons.mpr ⟨mSite.V (idx := 218) ok_X5_isNearEnd (by decide) (by decide) rv_X5_isNearEnd wc_X5_isNearEnd wk_RX7_218 wi_X5_isNearEnd wl_X5_isNearEnd wn_RX5 wd_X5_isNearEnd, List.forall_mem_cons.mpr ⟨mSite.V (idx := 222) ok_X7_openNow (by decide) (by decide) rv_X7_openNow wc_X7_openNow wk_RX7_222 wi_X7_openNow wl_X7_openNow wn_RX7 wd_X7_openNow, fun _ h => absurd h List.not_mem_nil⟩⟩) (fun _ => rfl)) run_X7_open

def F_gains (z : aZ) (as : List Int32) : Int32 × aZ := (match as with
  | [c] => match ix c 32 with
    | none => -2
    | some j => if dLate (zT z.2.1) = true then (if bt (aAl (zT z.2.1).2.2.1.1 (zT z.2.1).2.2.1.2.1 (zT z.2.1).2.2.1.2.2.2.2) j = true then nI (aG (zT z.2.1).2.2.1.1 (zT z.2.1).2.2.1.2.1 (zT z.2.1).2.2.1.2.2.2.2 j) else -6) else -3
  | _ => 0, z)
theorem and_bit {x : Int32} {j : Nat} (hj : j < 32) : x &&& fBit (nI j) = 0 ↔ ¬ bt x j = true := by
  constructor
  · intro h k
    have e : bt (x &&& fBit (nI j)) j = true := by rw [bt_and, bt_fBit j hj j hj, k]; simp
    rw [h, bt_0] at e
    cases e
  · intro h
    refine bt_ext (fun i hi => ?_)
    rw [bt_and, bt_fBit j hj i hi, bt_0]
    by_cases e : i = j
    · rw [e]
      simp only [Bool.not_eq_true] at h
      rw [h]
      rfl
    · rw [decide_eq_false e, Bool.and_false]
abbrev t_X7_gains : mG → mT := pub 1 F_gains
theorem mo_X7_gains : mMn t_X7_gains := pub_mono
theorem rv_X7_gains : mHasR yX7_gains 1 t_X7_gains := pub_recv rfl
def k_X7_gains : List (Nat × mI) := [(0, .iload_n 1, 1, 1, 0, []),
  (1, .invokestatic 171, 3, 0, 0, []),
  (4, .ifCond .ne 6, 3, 10, 0, []),
  (7, .bipush (-2), 2, 0, -2, []),
  (9, .ireturn, 1, 0, 0, []),
  (10, .aload_n 0, 1, 0, 0, []),
  (11, .getfield 29, 3, 0, 0, []),
  (14, .invokevirtual 218, 3, 0, 0, []),
  (17, .ifCond .ne 6, 3, 23, 0, []),
  (20, .bipush (-3), 2, 0, -3, []),
  (22, .ireturn, 1, 0, 0, []),
  (23, .aload_n 0, 1, 0, 0, []),
  (24, .getfield 29, 3, 0, 0, []),
  (27, .getfield 134, 3, 0, 0, []),
  (30, .invokevirtual 152, 3, 0, 0, []),
  (33, .iload_n 1, 1, 1, 0, []),
  (34, .invokestatic 225, 3, 0, 0, []),
  (37, .iand, 1, 0, 0, []),
  (38, .ifCond .ne 8, 3, 46, 0, []),
  (41, .bipush (-6), 2, 0, -6, []),
  (43, .goto 8, 3, 51, 0, []),
  (46, .aload_n 0, 1, 0, 0, []),
  (47, .iload_n 1, 1, 1, 0, []),
  (48, .invokevirtual 228, 3, 0, 0, []),
  (51, .ireturn, 1, 0, 0, [])]
theorem kk_X7_gains : (k_X7_gains.all fun e => mChk cX7_gains e.1 e.2) = true := by decide +kernel
def l_X7_gains : List (Nat × Nat × (mG → mT)) := [(3 * 171 + 1, 1, t_X7_isCard), (3 * 218, 0 + 1, t_X5_isNearEnd), (3 * 152, 0 + 1, t_X2_allowed), (3 * 225 + 1, 1, t_X7_bitOf), (3 * 228, 1 + 1, t_X7_gainsOf)]
def f_X7_gains (g : mG) : mF := (mLk k_X7_gains, mLk fl_RX7, mLk (l_X7_gains.map fun e => (e.1, e.2.1, e.2.2 g)), mLk ([] : List (Nat × mV)), mLk ([] : List (Nat × mV)), some .int)
theorem m_X7_gains (g : mG) : mMono (f_X7_gains g) := mMonoL (g := g) (l := l_X7_gains) (List.forall_mem_cons.mpr ⟨mo_X7_isCard, List.forall_mem_cons.mpr ⟨mo_X5_isNearEnd, List.forall_mem_cons.mpr ⟨mo_X2_allowed, List.forall_mem_cons.mpr ⟨mo_X7_bitOf, List.forall_mem_cons.mpr ⟨mo_X7_gainsOf, fun _ h => absurd h List.not_mem_nil⟩⟩⟩⟩⟩) rfl

theorem v_gains_0 (g : mG) (M : mM) (P : mP) (x : Int32)
    (h : (¬ (fCard x) = 0 → (¬ (M 13 3) = (nI 2) → ((nI 0) = 0 ∨ (nI 0) = 1) ∧ (mRun (mSx g) (f_X7_gains g) P (17, [some (.inr (some 0)), some (.inl x)], [.inl (nI 0)], M))) ∧ (¬ (¬ (M 13 3) = (nI 2)) → ¬ (nI 4) = 0 ∧ (((((nI 3) < ((nI 8) - ((M 16 7) / (nI 4))) → ((nI 0) = 0 ∨ (nI 0) = 1) ∧ (mRun (mSx g) (f_X7_gains g) P (17, [some (.inr (some 0)), some (.inl x)], [.inl (nI 0)], M))) ∧ (¬ ((nI 3) < ((nI 8) - ((M 16 7) / (nI 4)))) → ((nI 1) = 0 ∨ (nI 1) = 1) ∧ (mRun (mSx g) (f_X7_gains g) P (17, [some (.inr (some 0)), some (.inl x)], [.inl (nI 1)], M)))))))) ∧ (¬ (¬ (fCard x) = 0) → P (some (.inl (-2))) M)) :
    mRun (mSx g) (f_X7_gains g) P (0, [some (.inr (some 0)), some (.inl x)], [], M) := mRun.vc (m_X7_gains g) [17] 7 h

theorem v_gains_17 (g : mG) (M : mM) (P : mP) (x b : Int32)
    (h : (¬ b = 0 → ∃ x2 : Nat × aP, pre_X2_allowed x2 [.inr (some 16)] M ∧ ∀ (r4 : Int32) (M3 : mM), post_X2_allowed x2 [.inr (some 16)] M r4 M3 → ((¬ (r4 &&& (fBit x)) = 0 → ∃ x6 : aX × (Nat → Int32) × List Nat × Nat, pre_X7_gainsOf x6 [.inr (some 0), .inl x] M3 ∧ ∀ (r8 : Int32) (M7 : mM), post_X7_gainsOf x6 [.inr (some 0), .inl x] M3 r8 M7 → (P (some (.inl r8)) M7)) ∧ (¬ (¬ (r4 &&& (fBit x)) = 0) → P (some (.inl (-6))) M3))) ∧ (¬ (¬ b = 0) → P (some (.inl (-3))) M)) :
    mRun (mSx g) (f_X7_gains g) P (17, [some (.inr (some 0)), some (.inl x)], [.inl b], M) := mRun.vc (m_X7_gains g) [] 13 h

theorem run_X7_gains : mRunOf 2 t_X7_gains f_X7_gains := runC1 (by decide) (fun g M P z x hR hI hP => by
  have hT := hI.T
  have hQ : ∀ v M', v = (F_gains z [x]).1 → RpC M' z → FrC M M' → P (some (.inl v)) M' := fun v M' e => hP v M' e
  refine v_gains_0 g M P x ?_
  rw [fCard_ix]
  rcases ix_cs x (n := 32) (by decide) with ⟨hx, e1⟩ | ⟨j, hj, rfl, e1⟩
  · rw [show (F_gains z [x]).1 = -2 by simp only [F_gains, e1]] at hQ
    rw [e1, mb_no]
    exact ⟨fun h => absurd rfl h, fun _ => hQ _ _ rfl hR FrC.refl⟩
  · rw [show (F_gains z [nI j]).1 = if dLate (zT z.2.1) = true then (if bt (aAl (zT z.2.1).2.2.1.1 (zT z.2.1).2.2.1.2.1 (zT z.2.1).2.2.1.2.2.2.2) j = true then nI (aG (zT z.2.1).2.2.1.1 (zT z.2.1).2.2.1.2.1 (zT z.2.1).2.2.1.2.2.2.2 j) else -6) else -3 by simp only [F_gains, e1]] at hQ
    rw [e1, mb_so]
    refine ⟨fun _ => near_cs hR hI (fun b hb => v_gains_17 g M P _ b ?_), fun h => absurd (by decide) h⟩
    rw [hb]
    by_cases hl : dLate (zT z.2.1) = true
    · rw [mb_t hl]
      rw [if_pos hl] at hQ
      obtain ⟨l1, l2⟩ := dLate_t.mp hl
      obtain ⟨k1, k2, -⟩ := hT.play l1
      refine ⟨fun _ => ⟨(16, (zT z.2.1).2.2.1), ⟨rfl, rfl, hR.2.2.2.1.2.2.1, k1⟩, fun r M2 hr => ?_⟩, fun h => absurd (by decide) h⟩
      obtain ⟨rfl, rfl⟩ := hr
      dsimp only
      rw [and_bit hj]
      by_cases hb : bt (aAl (zT z.2.1).2.2.1.1 (zT z.2.1).2.2.1.2.1 (zT z.2.1).2.2.1.2.2.2.2) j = true
      · rw [if_pos hb] at hQ
        refine ⟨fun _ => ⟨((zT z.2.1).2.2.1.1, (zT z.2.1).2.2.1.2.1, (zT z.2.1).2.2.1.2.2.2.2, j), ⟨rfl, play00 hR.2.2.2.1 hT l1, k1, l2, k2, hj, hb⟩, fun r M4 hr => ?_⟩, fun h => absurd (fun w => w hb) h⟩
        exact hQ r M4 hr.1 (RpC_thought hR hr.2) (FrP_C hr.2)
      · rw [if_neg hb] at hQ
        exact ⟨fun h => absurd hb h, fun _ => hQ _ _ rfl hR FrC.refl⟩
    · rw [mb_f hl]
      rw [if_neg hl] at hQ
      exact ⟨fun h => absurd rfl h, fun _ => hQ _ _ rfl hR FrC.refl⟩)

theorem ok_X7_gains : mOK yX7_gains cX7_gains 2 (some .int) 19 t_X7_gains := mOK.of f_X7_gains (by decide) (fun _ => rfl) (fun g => mCodeOK kk_X7_gains) (fun g => mFldL fk_RX7 rfl) (fun g idx v h => by cases h) (fun g idx v h => by cases h) (mCalL (l := l_X7_gains) (List.forall_mem_cons.mpr ⟨mSite.S (idx := 171) ok_X7_isCard (by decide) (by decide) wc_X7_isCard wk_RX7_171 wt_X7_isCard wn_RX7 wd_X7_isCard, List.forall_mem_cons.mpr ⟨mSite.V (idx := 218) ok_X5_isNearEnd (by decide) (by decide) rv_X5_isNearEnd wc_X5_isNearEnd wk_RX7_218 wi_X5_isNearEnd wl_X5_isNearEnd wn_RX5 wd_X5_isNearEnd, List.forall_mem_cons.mpr ⟨mSite.V (idx := 152) ok_X2_allowed (by decide) (by decide) rv_X2_allowed wc_X2_allowed wk_RX7_152 wi_X2_allowed wl_X2_allowed wn_RX2 wd_X2_allowed, List.forall_mem_cons.mpr ⟨mSite.S (idx := 225) ok_X7_bitOf (by decide) (by decide) wc_X7_bitOf wk_RX7_225 wt_X7_bitOf wn_RX7 wd_X7_bitOf, List.forall_mem_cons.mpr ⟨mSite.V (idx := 228) ok_X7_gainsOf (by decide) (by decide) rv_X7_gainsOf wc_X7_gainsOf wk_RX7_228 wi_X7_gainsOf wl_X7_gainsOf wn_RX7 wd_X7_gainsOf, fun _ h => absurd h List.not_mem_nil⟩⟩⟩⟩⟩) (fun _ => rfl)) run_X7_gains

/-- most (and 1), the best card, how many gain less, how many were looked at -/
abbrev aBst : Type := Nat × Int32 × Nat × Nat
def bL (f : Nat → Nat) : List Nat → aBst → aBst
  | [], s => s
  | c :: l, s => bL f l (if s.1 < f c + 1 then (f c + 1, nI c, s.2.2.2, s.2.2.2 + 1) else if f c + 1 < s.1 then (s.1, s.2.1, s.2.2.1 + 1, s.2.2.2 + 1) else (s.1, s.2.1, s.2.2.1, s.2.2.2 + 1))
def tBest (T : aT) : aBst := bL (aG T.2.2.1.1 T.2.2.1.2.1 T.2.2.1.2.2.2.2) (bts (ub (aAl T.2.2.1.1 T.2.2.1.2.1 T.2.2.1.2.2.2.2)) 32) (0, -1, 0, 0)
def F_best (z : aZ) (as : List Int32) : Int32 × aZ := (match as with
  | [w] => match ix w 2 with
    | none => -2
    | some k => if dLate (zT z.2.1) = true then (if k = 0 then (tBest (zT z.2.1)).2.1 else nI (tBest (zT z.2.1)).2.2.1) else -3
  | _ => 0, z)
/-- n less 1, as an int -/
def oN : Nat → Int32
  | 0 => -1
  | n + 1 => nI n
theorem oN_lt {f m : Nat} (hf : f < 100) (hm : m < 100) : oN m < nI f ↔ m < f + 1 := by
  cases m with
  | zero =>
    simp only [oN, fa_lt]
    rw [nI_toInt (by omega), toInt_m1]
    omega
  | succ m =>
    simp only [oN]
    rw [nI_ltI (by omega) (by omega)]
    omega
theorem oN_gt {f m : Nat} (hf : f < 100) (hm : m < 100) : oN m ≤ nI f ↔ m ≤ f + 1 := by
  cases m with
  | zero =>
    simp only [oN, fa_le]
    rw [nI_toInt (by omega), toInt_m1]
    omega
  | succ m =>
    simp only [oN]
    rw [nI_leI (by omega) (by omega)]
    omega
abbrev t_X7_best : mG → mT := pub 1 F_best
theorem mo_X7_best : mMn t_X7_best := pub_mono
theorem rv_X7_best : mHasR yX7_best 1 t_X7_best := pub_recv rfl
def k_X7_best : List (Nat × mI) := [(0, .iload_n 1, 1, 1, 0, []),
  (1, .ifCond .lt 8, 3, 9, 0, []),
  (4, .iload_n 1, 1, 1, 0, []),
  (5, .iconst 1, 1, 0, nI 1, []),
  (6, .if_icmp .le 6, 3, 12, 0, []),
  (9, .bipush (-2), 2, 0, -2, []),
  (11, .ireturn, 1, 0, 0, []),
  (12, .aload_n 0, 1, 0, 0, []),
  (13, .getfield 29, 3, 0, 0, []),
  (16, .invokevirtual 218, 3, 0, 0, []),
  (19, .ifCond .ne 6, 3, 25, 0, []),
  (22, .bipush (-3), 2, 0, -3, []),
  (24, .ireturn, 1, 0, 0, []),
  (25, .aload_n 0, 1, 0, 0, []),
  (26, .getfield 29, 3, 0, 0, []),
  (29, .getfield 134, 3, 0, 0, []),
  (32, .invokevirtual 152, 3, 0, 0, []),
  (35, .istore_n 2, 1, 2, 0, []),
  (36, .iconst (-1), 1, 0, -1, []),
  (37, .istore_n 3, 1, 3, 0, []),
  (38, .iconst (-1), 1, 0, -1, []),
  (39, .istore 4, 2, 4, 0, []),
  (41, .iconst 0, 1, 0, nI 0, []),
  (42, .istore 5, 2, 5, 0, []),
  (44, .iconst 0, 1, 0, nI 0, []),
  (45, .istore 6, 2, 6, 0, []),
  (47, .iload_n 2, 1, 2, 0, []),
  (48, .invokestatic 231, 3, 0, 0, []),
  (51, .istore 7, 2, 7, 0, []),
  (53, .iload 7, 2, 7, 0, []),
  (55, .ifCond .le 63, 3, 118, 0, []),
  (58, .iload_n 2, 1, 2, 0, []),
  (59, .invokestatic 236, 3, 0, 0, []),
  (62, .istore 8, 2, 8, 0, []),
  (64, .iload_n 2, 1, 2, 0, []),
  (65, .iload_n 2, 1, 2, 0, []),
  (66, .iconst 1, 1, 0, nI 1, []),
  (67, .isub, 1, 0, 0, []),
  (68, .iand, 1, 0, 0, []),
  (69, .istore_n 2, 1, 2, 0, []),
  (70, .aload_n 0, 1, 0, 0, []),
  (71, .iload 8, 2, 8, 0, []),
  (73, .invokevirtual 228, 3, 0, 0, []),
  (76, .istore 9, 2, 9, 0, []),
  (78, .iload 9, 2, 9, 0, []),
  (80, .iload 4, 2, 4, 0, []),
  (82, .if_icmp .le 17, 3, 99, 0, []),
  (85, .iload 9, 2, 9, 0, []),
  (87, .istore 4, 2, 4, 0, []),
  (89, .iload 8, 2, 8, 0, []),
  (91, .istore_n 3, 1, 3, 0, []),
  (92, .iload 6, 2, 6, 0, []),
  (94, .istore 5, 2, 5, 0, []),
  (96, .goto 13, 3, 109, 0, []),
  (99, .iload 9, 2, 9, 0, []),
  (101, .iload 4, 2, 4, 0, []),
  (103, .if_icmp .ge 6, 3, 109, 0, []),
  (106, .iinc 5 1, 3, 5, nI 1, []),
  (109, .iinc 6 1, 3, 6, nI 1, []),
  (112, .iinc 7 (-1), 3, 7, -1, []),
  (115, .goto (-62), 3, 53, 0, []),
  (118, .iload_n 1, 1, 1, 0, []),
  (119, .ifCond .ne 7, 3, 126, 0, []),
  (122, .iload_n 3, 1, 3, 0, []),
  (123, .goto 5, 3, 128, 0, []),
  (126, .iload 5, 2, 5, 0, []),
  (128, .ireturn, 1, 0, 0, [])]
theorem kk_X7_best : (k_X7_best.all fun e => mChk cX7_best e.1 e.2) = true := by decide +kernel
def l_X7_best : List (Nat × Nat × (mG → mT)) := [(3 * 218, 0 + 1, t_X5_isNearEnd), (3 * 152, 0 + 1, t_X2_allowed), (3 * 231 + 1, 1, t_J6_bitCount_0f7a4), (3 * 236 + 1, 1, t_X7_lowestCard), (3 * 228, 1 + 1, t_X7_gainsOf)]
def f_X7_best (g : mG) : mF := (mLk k_X7_best, mLk fl_RX7, mLk (l_X7_best.map fun e => (e.1, e.2.1, e.2.2 g)), mLk ([] : List (Nat × mV)), mLk ([] : List (Nat × mV)), some .int)
theorem m_X7_best (g : mG) : mMono (f_X7_best g) := mMonoL (g := g) (l := l_X7_best) (List.forall_mem_cons.mpr ⟨mo_X5_isNearEnd, List.forall_mem_cons.mpr ⟨mo_X2_allowed, List.forall_mem_cons.mpr ⟨mo_J6_bitCount_0f7a4, List.forall_mem_cons.mpr ⟨mo_X7_lowestCard, List.forall_mem_cons.mpr ⟨mo_X7_gainsOf, fun _ h => absurd h List.not_mem_nil⟩⟩⟩⟩⟩) rfl

theorem v_best_0 (g : mG) (M : mM) (P : mP) (x : Int32)
    (h : (x < 0 → P (some (.inl (-2))) M) ∧ (¬ (x < 0) → (x ≤ (nI 1) → (¬ (M 13 3) = (nI 2) → ((nI 0) = 0 ∨ (nI 0) = 1) ∧ (mRun (mSx g) (f_X7_best g) P (19, [some (.inr (some 0)), some (.inl x), none, none, none, none, none, none, none, none], [.inl (nI 0)], M))) ∧ (¬ (¬ (M 13 3) = (nI 2)) → ¬ (nI 4) = 0 ∧ (((((nI 3) < ((nI 8) - ((M 16 7) / (nI 4))) → ((nI 0) = 0 ∨ (nI 0) = 1) ∧ (mRun (mSx g) (f_X7_best g) P (19, [some (.inr (some 0)), some (.inl x), none, none, none, none, none, none, none, none], [.inl (nI 0)], M))) ∧ (¬ ((nI 3) < ((nI 8) - ((M 16 7) / (nI 4)))) → ((nI 1) = 0 ∨ (nI 1) = 1) ∧ (mRun (mSx g) (f_X7_best g) P (19, [some (.inr (some 0)), some (.inl x), none, none, none, none, none, none, none, none], [.inl (nI 1)], M)))))))) ∧ (¬ (x ≤ (nI 1)) → P (some (.inl (-2))) M))) :
    mRun (mSx g) (f_X7_best g) P (0, [some (.inr (some 0)), some (.inl x), none, none, none, none, none, none, none, none], [], M) := mRun.vc (m_X7_best g) [19] 9 h

theorem v_best_19 (g : mG) (M : mM) (P : mP) (x b : Int32)
    (h : (¬ b = 0 → ∃ x2 : Nat × aP, pre_X2_allowed x2 [.inr (some 16)] M ∧ ∀ (r4 : Int32) (M3 : mM), post_X2_allowed x2 [.inr (some 16)] M r4 M3 → (mRun (mSx g) (f_X7_best g) P (53, [some (.inr (some 0)), some (.inl x), some (.inl r4), some (.inl (-1)), some (.inl (-1)), some (.inl (nI 0)), some (.inl (nI 0)), some (.inl (popC r4)), none, none], [], M3))) ∧ (¬ (¬ b = 0) → P (some (.inl (-3))) M)) :
    mRun (mSx g) (f_X7_best g) P (19, [some (.inr (some 0)), some (.inl x), none, none, none, none, none, none, none, none], [.inl b], M) := mRun.vc (m_X7_best g) [53] 18 h

theorem v_best_53 (g : mG) (M : mM) (P : mP) (x c bc mo le se k : Int32) (l8 l9 : Option mV)
    (h : (k ≤ 0 → (¬ x = 0 → P (some (.inl le)) M) ∧ (¬ (¬ x = 0) → P (some (.inl bc)) M)) ∧ (¬ (k ≤ 0) → ∃ x3 : aX × (Nat → Int32) × List Nat × Nat, pre_X7_gainsOf x3 [.inr (some 0), .inl (fLow c)] M ∧ ∀ (r5 : Int32) (M4 : mM), post_X7_gainsOf x3 [.inr (some 0), .inl (fLow c)] M r5 M4 → ((r5 ≤ mo → (mo ≤ r5 → mRun (mSx g) (f_X7_best g) P (53, [some (.inr (some 0)), some (.inl x), some (.inl (c &&& (c - (nI 1)))), some (.inl bc), some (.inl mo), some (.inl le), some (.inl (se + (nI 1))), some (.inl (k + (-1))), some (.inl (fLow c)), some (.inl r5)], [], M4)) ∧ (¬ (mo ≤ r5) → mRun (mSx g) (f_X7_best g) P (53, [some (.inr (some 0)), some (.inl x), some (.inl (c &&& (c - (nI 1)))), some (.inl bc), some (.inl mo), some (.inl (le + (nI 1))), some (.inl (se + (nI 1))), some (.inl (k + (-1))), some (.inl (fLow c)), some (.inl r5)], [], M4))) ∧ (¬ (r5 ≤ mo) → mRun (mSx g) (f_X7_best g) P (53, [some (.inr (some 0)), some (.inl x), some (.inl (c &&& (c - (nI 1)))), some (.inl (fLow c)), some (.inl r5), some (.inl se), some (.inl (se + (nI 1))), some (.inl (k + (-1))), some (.inl (fLow c)), some (.inl r5)], [], M4))))) :
    mRun (mSx g) (f_X7_best g) P (53, [some (.inr (some 0)), some (.inl x), some (.inl c), some (.inl bc), some (.inl mo), some (.inl le), some (.inl se), some (.inl k), l8, l9], [], M) := mRun.vc (m_X7_best g) [53] 29 h

theorem best_loop (g : mG) (P : mP) (M0 : mM) (z : aZ) (x : Int32) (k : Nat) (hx : x = nI k) (hk : k < 2) (hI : zInv z) (l1 : (zT z.2.1).1.1 = 2) (l2 : 20 ≤ (zT z.2.1).2.2.1.2.2.2.2.length)
    (hQ : ∀ v M', v = (if k = 0 then (tBest (zT z.2.1)).2.1 else nI (tBest (zT z.2.1)).2.2.1) → RpC M' z → FrC M0 M' → P (some (.inl v)) M') :
    ∀ (l : List Nat) (c : Int32) (s : aBst) (M : mM) (l8 l9 : Option mV), bts (ub c) 32 = l → l.length ≤ 32 → (∀ d ∈ l, d < 32 ∧ bt (aAl (zT z.2.1).2.2.1.1 (zT z.2.1).2.2.1.2.1 (zT z.2.1).2.2.1.2.2.2.2) d = true) → s.1 < 100 → bL (aG (zT z.2.1).2.2.1.1 (zT z.2.1).2.2.1.2.1 (zT z.2.1).2.2.1.2.2.2.2) l s = tBest (zT z.2.1) → RpC M z → FrC M0 M →
    mRun (mSx g) (f_X7_best g) P (53, [some (.inr (some 0)), some (.inl x), some (.inl c), some (.inl s.2.1), some (.inl (oN s.1)), some (.inl (nI s.2.2.1)), some (.inl (nI s.2.2.2)), some (.inl (nI l.length)), l8, l9], [], M) := by
  have hT := hI.T
  obtain ⟨k1, k2, -⟩ := hT.play l1
  intro l
  induction l with
  | nil =>
    intro c s M l8 l9 hc hl hd hs hv hR hF
    rw [bL] at hv
    rw [← hv] at hQ
    refine v_best_53 g M P _ _ _ _ _ _ _ _ _ ⟨fun _ => ?_, fun z => absurd (Int32.le_refl 0) z⟩
    rw [hx]
    refine ⟨fun h => hQ _ _ (by rw [if_neg (fun w => h (by rw [w]; rfl))]) hR hF, fun h => hQ _ _ ?_ hR hF⟩
    rw [if_pos ((nI_eq (b := 0) (by omega) (by decide)).mp (Classical.not_not.mp h))]
  | cons d l ih =>
    intro c s M l8 l9 hc hl hd hs hv hR hF
    have hdd := hd d List.mem_cons_self
    have hne : c ≠ 0 := fun w => by
      rw [w, bts_zero] at hc
      exact absurd hc (List.cons_ne_nil d l).symm
    obtain ⟨q, -, hk1, hk2, -⟩ := low_of hne
    rw [hc] at hk2
    generalize hu2 : bts (ub (c &&& (c - nI 1))) 32 = l3 at hk2
    obtain ⟨h1, h2⟩ := List.cons.inj hk2
    rw [← h1] at hk1
    rw [← h2] at hu2
    have hg := (aG_le k1 k2 hdd.1 hdd.2).2
    refine v_best_53 g M P _ _ _ _ _ _ _ _ _ ⟨fun w => ?_, fun _ => ?_⟩
    · exact absurd w (nI_nle (by rw [List.length_cons]; omega) (by omega))
    rw [hk1]
    refine ⟨((zT z.2.1).2.2.1.1, (zT z.2.1).2.2.1.2.1, (zT z.2.1).2.2.1.2.2.2.2, d), ⟨rfl, play00 hR.2.2.2.1 hT l1, k1, l2, k2, hdd.1, hdd.2⟩, fun r M4 hr => ?_⟩
    obtain ⟨rfl, hr2⟩ := hr
    have hR4 := RpC_thought hR hr2
    have hF4 := hF.trans (FrP_C hr2)
    have el : nI (d :: l).length + (-1) = nI l.length := by rw [List.length_cons, pk_m1]
    rw [el, nI_add]
    dsimp only
    rw [bL] at hv
    generalize aG (zT z.2.1).2.2.1.1 (zT z.2.1).2.2.1.2.1 (zT z.2.1).2.2.1.2.2.2.2 d = gn at hg hv ⊢
    have hl' : l.length ≤ 32 := by rw [List.length_cons] at hl; omega
    have hd' : ∀ e ∈ l, e < 32 ∧ bt (aAl (zT z.2.1).2.2.1.1 (zT z.2.1).2.2.1.2.1 (zT z.2.1).2.2.1.2.2.2.2) e = true := fun e he => hd e (List.mem_cons_of_mem _ he)
    have go := ih (c &&& (c - nI 1))
    rw [show (nI gn ≤ oN s.1) ↔ ¬ (s.1 < gn + 1) by rw [← oN_lt (by omega) hs, Int32.not_lt], show (oN s.1 ≤ nI gn) ↔ s.1 ≤ gn + 1 from oN_gt (by omega) hs]
    refine ⟨fun w1 => ⟨fun w2 => ?_, fun w2 => ?_⟩, fun w1 => ?_⟩
    · rw [if_neg w1, if_neg (by omega)] at hv
      exact go (s.1, s.2.1, s.2.2.1, s.2.2.2 + 1) M4 _ _ hu2 hl' hd' hs hv hR4 hF4
    · rw [if_neg w1, if_pos (by omega)] at hv
      rw [nI_add]
      exact go (s.1, s.2.1, s.2.2.1 + 1, s.2.2.2 + 1) M4 _ _ hu2 hl' hd' hs hv hR4 hF4
    · rw [if_pos (Classical.not_not.mp w1)] at hv
      exact go (gn + 1, nI d, s.2.2.2, s.2.2.2 + 1) M4 _ _ hu2 hl' hd' (by show gn + 1 < 100; omega) hv hR4 hF4
theorem run_X7_best : mRunOf 10 t_X7_best f_X7_best := runC1 (by decide) (fun g M P z x hR hI hP => by
  have hT := hI.T
  have hQ : ∀ v M', v = (F_best z [x]).1 → RpC M' z → FrC M M' → P (some (.inl v)) M' := fun v M' e => hP v M' e
  refine v_best_0 g M P x ?_
  rcases ix_cs x (n := 2) (by decide) with ⟨hx, e1⟩ | ⟨k, hk, rfl, e1⟩
  · rw [show (F_best z [x]).1 = -2 by simp only [F_best, e1]] at hQ
    refine ⟨fun _ => hQ _ _ rfl hR FrC.refl, fun h1 => ⟨fun h2 => ?_, fun _ => hQ _ _ rfl hR FrC.refl⟩⟩
    exfalso
    simp (disch := omega) only [fa_lt, fa_le, nI_toInt, Int32.toInt_zero] at hx h1 h2
    omega
  · rw [show (F_best z [nI k]).1 = if dLate (zT z.2.1) = true then (if k = 0 then (tBest (zT z.2.1)).2.1 else nI (tBest (zT z.2.1)).2.2.1) else -3 by simp only [F_best, e1]] at hQ
    refine ⟨fun h => absurd h (nI_pos (by omega)), fun _ => ⟨fun _ => near_cs hR hI (fun b hb => v_best_19 g M P _ b ?_), fun h => absurd (nI_le (by omega) (by decide)) h⟩⟩
    rw [hb]
    by_cases hl : dLate (zT z.2.1) = true
    · rw [mb_t hl]
      rw [if_pos hl] at hQ
      obtain ⟨l1, l2⟩ := dLate_t.mp hl
      obtain ⟨k1, k2, -⟩ := hT.play l1
      refine ⟨fun _ => ⟨(16, (zT z.2.1).2.2.1), ⟨rfl, rfl, hR.2.2.2.1.2.2.1, k1⟩, fun r M2 hr => ?_⟩, fun h => absurd (by decide) h⟩
      obtain ⟨rfl, rfl⟩ := hr
      dsimp only
      rw [pop_len]
      exact best_loop g P M2 z (nI k) k rfl hk hI l1 l2 hQ _ _ (0, -1, 0, 0) M2 _ _ rfl (bts_32 _) (fun c hc => bts_lt hc) (by decide) rfl hR FrC.refl
    · rw [mb_f hl]
      rw [if_neg hl] at hQ
      exact ⟨fun h => absurd rfl h, fun _ => hQ _ _ rfl hR FrC.refl⟩)

theorem ok_X7_best : mOK yX7_best cX7_best 10 (some .int) 19 t_X7_best := mOK.of f_X7_best (by decide) (fun _ => rfl) (fun g => mCodeOK kk_X7_best) (fun g => mFldL fk_RX7 rfl) (fun g idx v h => by cases h) (fun g idx v h => by cases h) (mCalL (l := l_X7_best) (List.forall_mem_cons.mpr ⟨mSite.V (idx := 218) ok_X5_isNearEnd (by decide) (by decide) rv_X5_isNearEnd wc_X5_isNearEnd wk_RX7_218 wi_X5_isNearEnd wl_X5_isNearEnd wn_RX5 wd_X5_isNearEnd, List.forall_mem_cons.mpr ⟨mSite.V (idx := 152) ok_X2_allowed (by decide) (by decide) rv_X2_allowed wc_X2_allowed wk_RX7_152 wi_X2_allowed wl_X2_allowed wn_RX2 wd_X2_allowed, List.forall_mem_cons.mpr ⟨mSite.S (idx := 231) ok_J6_bitCount_0f7a4 (by decide) (by decide) wc_J6_bitCount_0f7a4 wk_RX7_231 wt_J6_bitCount_0f7a4 wn_RJ6 wd_J6_bitCount_0f7a4, List.forall_mem_cons.mpr ⟨mSite.S (idx := 236) ok_X7_lowestCard (by decide) (by decide) wc_X7_lowestCard wk_RX7_236 wt_X7_lowestCard wn_RX7 wd_X7_lowestCard, List.forall_mem_cons.mpr ⟨mSite.V (idx := 228) ok_X7_gainsOf (by decide) (by decide) rv_X7_gainsOf wc_X7_gainsOf wk_RX7_228 wi_X7_gainsOf wl_X7_gainsOf wn_RX7 wd_X7_gainsOf, fun _ h => absurd h List.not_mem_nil⟩⟩⟩⟩⟩) (fun _ => rfl)) run_X7_best

