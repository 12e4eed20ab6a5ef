/-! ===== THE REFERENCE: an act is done; gone through ===== -/
/-- a card is added -/
theorem RmT.add {M M' : mM} {T : aT} {c : Nat} (h : RmT M T) (hI : tInv T) (k : T.1.1 = 2) (hQ : RmQ M' T.2.2.1.1 T.2.2.1.2.1 (T.2.2.1.2.2.2.2 ++ [c])) (hF : FrQ M M') : RmW M' (T.1, T.2.1, pAdd T.2.2.1 c, T.2.2.2) ∧ (T.2.2.1.2.2.2.2.length + 1 < 32 → RmT M' (T.1, T.2.1, pAdd T.2.2.1 c, T.2.2.2)) := by
  obtain ⟨⟨h1, h2, h3, h4, h5⟩, hB, hP, hS, hL⟩ := h
  obtain ⟨n, t, q, d, c1, c2, c3, c3', c3'', c3n, c4, c5, c6, c7, c8⟩ := hI.2.2.2.1 k
  have hP' : RmP M' T.2.2.1.1 T.2.2.1.2.1 T.2.2.1.2.2.1 T.2.2.1.2.2.2.1 (T.2.2.1.2.2.2.2 ++ [c]) := by
    rw [c5, c6]
    exact hQ.1
  refine ⟨⟨⟨(hF.2 7 (by decide) (by decide)).trans h3, (hF.2 14 (by decide) (by decide)).trans h4, (hF.2 15 (by decide) (by decide)).trans h5⟩, RmB_frQ hB hF, hP', RmSc_frQ hS hF⟩, fun hl => ⟨⟨(hF.2 5 (by decide) (by decide)).trans h1, ?_, (hF.2 7 (by decide) (by decide)).trans h3, (hF.2 14 (by decide) (by decide)).trans h4, (hF.2 15 (by decide) (by decide)).trans h5⟩, RmB_frQ hB hF, hP', RmSc_frQ hS hF, fun _ => hQ.2.2.1 (by rw [List.length_append, List.length_singleton]; exact hl)⟩⟩
  rw [turnI_2 (T := (T.1, T.2.1, pAdd T.2.2.1 c, T.2.2.2)) k]
  exact hQ.2.1.1
theorem endOk_of {T : aT} (hI : tInv T) (k : T.1.1 = 2) {p : aP} : endOk (T.1, T.2.1, p, T.2.2.2) := by
  obtain ⟨n, t, q, d, c1, c2, c3, c3', -⟩ := hI.2.2.2.1 k
  exact ⟨n, t, q, d, c1, c2, c3, c3', hI.2.1.2.1⟩
def pre_X8_doesAct (q : aT × Nat × Int32 × Int32) (as : List mV) (M : mM) : Prop := as = [.inr (some 50), .inl (nI q.2.1), .inl q.2.2.1, .inl q.2.2.2] ∧ RmT M q.1 ∧ tInv q.1 ∧ fit q.1 q.2
def post_X8_doesAct (q : aT × Nat × Int32 × Int32) (_ : List mV) (M : mM) (M' : mM) : Prop := RmT M' (tStep q.1 q.2) ∧ FrR M M'
abbrev t_X8_doesAct : mG → mT := mRv pre_X8_doesAct post_X8_doesAct
theorem mo_X8_doesAct : mMn t_X8_doesAct := mRv_mono
theorem rv_X8_doesAct : mHasR yX8_doesAct 3 t_X8_doesAct := by
  intro g as M P hT hl
  obtain ⟨q, ⟨h2, -⟩, -⟩ := hT
  exact ⟨_, _, h2, is_X8 g _ rfl⟩
def k_X8_doesAct : List (Nat × mI) := [(0, .iload_n 1, 1, 1, 0, []),
  (1, .tableswitch 186 0 7 #[47, 55, 64, 71, 71, 101, 128, 178], 47, 187, 0, [(nI 0, 48), (nI 1, 56), (nI 2, 65), (nI 3, 72), (nI 4, 72), (nI 5, 102), (nI 6, 129), (nI 7, 179)]),
  (48, .aload_n 0, 1, 0, 0, []),
  (49, .iload_n 2, 1, 2, 0, []),
  (50, .invokevirtual 182, 3, 0, 0, []),
  (53, .goto 139, 3, 192, 0, []),
  (56, .aload_n 0, 1, 0, 0, []),
  (57, .iload_n 2, 1, 2, 0, []),
  (58, .iload_n 3, 1, 3, 0, []),
  (59, .invokevirtual 185, 3, 0, 0, []),
  (62, .goto 130, 3, 192, 0, []),
  (65, .aload_n 0, 1, 0, 0, []),
  (66, .invokevirtual 189, 3, 0, 0, []),
  (69, .goto 123, 3, 192, 0, []),
  (72, .aload_n 0, 1, 0, 0, []),
  (73, .dup, 1, 0, 0, []),
  (74, .getfield 91, 3, 0, 0, []),
  (77, .iconst 1, 1, 0, nI 1, []),
  (78, .iadd, 1, 0, 0, []),
  (79, .putfield 91, 3, 0, 0, []),
  (82, .aload_n 0, 1, 0, 0, []),
  (83, .iconst 0, 1, 0, nI 0, []),
  (84, .putfield 94, 3, 0, 0, []),
  (87, .aload_n 0, 1, 0, 0, []),
  (88, .aload_n 0, 1, 0, 0, []),
  (89, .getfield 103, 3, 0, 0, []),
  (92, .iconst 1, 1, 0, nI 1, []),
  (93, .iadd, 1, 0, 0, []),
  (94, .iconst 4, 1, 0, nI 4, []),
  (95, .irem, 1, 0, 0, []),
  (96, .putfield 103, 3, 0, 0, []),
  (99, .goto 93, 3, 192, 0, []),
  (102, .aload_n 0, 1, 0, 0, []),
  (103, .bipush 8, 2, 0, nI 8, []),
  (105, .iload_n 3, 1, 3, 0, []),
  (106, .imul, 1, 0, 0, []),
  (107, .iload_n 2, 1, 2, 0, []),
  (108, .iadd, 1, 0, 0, []),
  (109, .invokevirtual 191, 3, 0, 0, []),
  (112, .aload_n 0, 1, 0, 0, []),
  (113, .getfield 97, 3, 0, 0, []),
  (116, .bipush 8, 2, 0, nI 8, []),
  (118, .if_icmp .ne 74, 3, 192, 0, []),
  (121, .aload_n 0, 1, 0, 0, []),
  (122, .iconst 1, 1, 0, nI 1, []),
  (123, .invokevirtual 171, 3, 0, 0, []),
  (126, .goto 66, 3, 192, 0, []),
  (129, .aload_n 0, 1, 0, 0, []),
  (130, .getfield 42, 3, 0, 0, []),
  (133, .aload_n 0, 1, 0, 0, []),
  (134, .getfield 103, 3, 0, 0, []),
  (137, .invokestatic 151, 3, 0, 0, []),
  (140, .dup2, 1, 0, 0, []),
  (141, .iaload, 1, 0, 0, []),
  (142, .iload_n 2, 1, 2, 0, []),
  (143, .iadd, 1, 0, 0, []),
  (144, .iastore, 1, 0, 0, []),
  (145, .aload_n 0, 1, 0, 0, []),
  (146, .getfield 42, 3, 0, 0, []),
  (149, .iconst 1, 1, 0, nI 1, []),
  (150, .aload_n 0, 1, 0, 0, []),
  (151, .getfield 103, 3, 0, 0, []),
  (154, .invokestatic 151, 3, 0, 0, []),
  (157, .isub, 1, 0, 0, []),
  (158, .dup2, 1, 0, 0, []),
  (159, .iaload, 1, 0, 0, []),
  (160, .bipush 8, 2, 0, nI 8, []),
  (162, .aload_n 0, 1, 0, 0, []),
  (163, .getfield 97, 3, 0, 0, []),
  (166, .isub, 1, 0, 0, []),
  (167, .iload_n 2, 1, 2, 0, []),
  (168, .isub, 1, 0, 0, []),
  (169, .iadd, 1, 0, 0, []),
  (170, .iastore, 1, 0, 0, []),
  (171, .aload_n 0, 1, 0, 0, []),
  (172, .iconst 1, 1, 0, nI 1, []),
  (173, .invokevirtual 171, 3, 0, 0, []),
  (176, .goto 16, 3, 192, 0, []),
  (179, .aload_n 0, 1, 0, 0, []),
  (180, .iload_n 2, 1, 2, 0, []),
  (181, .putfield 109, 3, 0, 0, []),
  (184, .goto 8, 3, 192, 0, []),
  (187, .aload_n 0, 1, 0, 0, []),
  (188, .iload_n 2, 1, 2, 0, []),
  (189, .putfield 112, 3, 0, 0, []),
  (192, .return_, 1, 0, 0, [])]
theorem kk_X8_doesAct : (k_X8_doesAct.all fun e => mChk cX8_doesAct e.1 e.2) = true := by decide +kernel
def l_X8_doesAct : List (Nat × Nat × (mG → mT)) := [(3 * 182, 1 + 1, t_X8_deals), (3 * 185, 2 + 1, t_X8_bids), (3 * 189, 0 + 1, t_X8_passes), (3 * 191, 1 + 1, t_X8_plays), (3 * 171, 1 + 1, t_X8_endsDeal), (3 * 151 + 1, 1, t_X8_side)]
def f_X8_doesAct (g : mG) : mF := (mLk k_X8_doesAct, mLk fl_RX8, mLk (l_X8_doesAct.map fun e => (e.1, e.2.1, e.2.2 g)), mLk ([] : List (Nat × mV)), mLk ([] : List (Nat × mV)), none)
theorem m_X8_doesAct (g : mG) : mMono (f_X8_doesAct g) := mMonoL (g := g) (l := l_X8_doesAct) (List.forall_mem_cons.mpr ⟨mo_X8_deals, List.forall_mem_cons.mpr ⟨mo_X8_bids, List.forall_mem_cons.mpr ⟨mo_X8_passes, List.forall_mem_cons.mpr ⟨mo_X8_plays, List.forall_mem_cons.mpr ⟨mo_X8_endsDeal, List.forall_mem_cons.mpr ⟨mo_X8_side, fun _ h => absurd h List.not_mem_nil⟩⟩⟩⟩⟩⟩) rfl

set_option maxRecDepth 100000 in
theorem v_da (g : mG) (M : mM) (P : mP) (w n s : Int32)
    (h : (w = (nI 0) → ∃ x2 : aT × Int32, pre_X8_deals x2 [.inr (some 50), .inl n] M ∧ ∀ M3 : mM, post_X8_deals x2 [.inr (some 50), .inl n] M M3 → (P none M3)) ∧ (¬ w = (nI 0) → (w = (nI 1) → ∃ x5 : aT × Nat × Nat, pre_X8_bids x5 [.inr (some 50), .inl n, .inl s] M ∧ ∀ M6 : mM, post_X8_bids x5 [.inr (some 50), .inl n, .inl s] M M6 → (P none M6)) ∧ (¬ w = (nI 1) → (w = (nI 2) → ∃ x8 : aT, pre_X8_passes x8 [.inr (some 50)] M ∧ ∀ M9 : mM, post_X8_passes x8 [.inr (some 50)] M M9 → (P none M9)) ∧ (¬ w = (nI 2) → (w = (nI 3) → let M11 : mM := mW1 M 50 12 ((M 50 12) + (nI 1)); let M12 : mM := mW1 M11 50 13 (nI 0); ¬ (nI 4) = 0 ∧ (let M13 : mM := mW1 M12 50 6 (((M 50 6) + (nI 1)) - ((M 50 6) + (nI 1)) / (nI 4) * (nI 4)); P none M13)) ∧ (¬ w = (nI 3) → (w = (nI 4) → let M15 : mM := mW1 M 50 12 ((M 50 12) + (nI 1)); let M16 : mM := mW1 M15 50 13 (nI 0); ¬ (nI 4) = 0 ∧ (let M17 : mM := mW1 M16 50 6 (((M 50 6) + (nI 1)) - ((M 50 6) + (nI 1)) / (nI 4) * (nI 4)); P none M17)) ∧ (¬ w = (nI 4) → (w = (nI 5) → ∃ x19 : aX × (Nat → Int32) × List Nat × Nat, pre_X8_plays x19 [.inr (some 50), .inl (((nI 8) * s) + n)] M ∧ ∀ M20 : mM, post_X8_plays x19 [.inr (some 50), .inl (((nI 8) * s) + n)] M M20 → ((¬ (M20 50 19) = (nI 8) → P none M20) ∧ (¬ (¬ (M20 50 19) = (nI 8)) → ∃ x22 : aT × Nat, pre_X8_endsDeal x22 [.inr (some 50), .inl (nI 1)] M20 ∧ ∀ M23 : mM, post_X8_endsDeal x22 [.inr (some 50), .inl (nI 1)] M20 M23 → (P none M23)))) ∧ (¬ w = (nI 5) → (w = (nI 6) → vp_in (fSide (M 50 6)) 2 ∧ (vp_in (fSide (M 50 6)) 2 ∧ (let M25 : mM := mW1 M 63 ((fSide (M 50 6)).toNatClampNeg) ((M 63 ((fSide (M 50 6)).toNatClampNeg)) + n); vp_in ((nI 1) - (fSide (M 50 6))) 2 ∧ (vp_in ((nI 1) - (fSide (M 50 6))) 2 ∧ (let M26 : mM := mW1 M25 63 (((nI 1) - (fSide (M 50 6))).toNatClampNeg) ((M25 63 (((nI 1) - (fSide (M 50 6))).toNatClampNeg)) + (((nI 8) - (M 50 19)) - n)); ∃ x27 : aT × Nat, pre_X8_endsDeal x27 [.inr (some 50), .inl (nI 1)] M26 ∧ ∀ M28 : mM, post_X8_endsDeal x27 [.inr (some 50), .inl (nI 1)] M26 M28 → (P none M28)))))) ∧ (¬ w = (nI 6) → (w = (nI 7) → let M30 : mM := mW1 M 50 14 n; P none M30) ∧ (¬ w = (nI 7) → let M31 : mM := mW1 M 50 15 n; P none M31))))))))) :
    mRun (mSx g) (f_X8_doesAct g) P (0, [some (.inr (some 50)), some (.inl w), some (.inl n), some (.inl s)], [], M) := mRun.vc (m_X8_doesAct g) [] 34 h

theorem da_run (g : mG) (M : mM) (P : mP) (T : aT) (w : Nat) (y s : Int32) (hR : RmT M T) (hI : tInv T) (hf : fit T (w, y, s)) (hP : ∀ M', RmT M' (tStep T (w, y, s)) ∧ FrR M M' → P none M') : mRun (mSx g) (f_X8_doesAct g) P (0, [some (.inr (some 50)), some (.inl (nI w)), some (.inl y), some (.inl s)], [], M) := by
  obtain ⟨hw, f0, f1, f2, f3, f4, f5, f6, f7, f8⟩ := hf
  dsimp only at hw f0 f1 f2 f3 f4 f5 f6 f7 f8
  have hdbl : ∀ (k : T.1.1 = 1), T.2.1.1.2.1 ≤ 1 → ¬ nI 4 = 0 ∧ P none (mW1 (mW1 (mW1 M 50 12 (M 50 12 + nI 1)) 50 13 (nI 0)) 50 6 (M 50 6 + nI 1 - (M 50 6 + nI 1) / nI 4 * nI 4)) ∨ True := fun _ _ => Or.inr trivial
  have dbl : T.1.1 = 1 → (∀ M', RmT M' (T.1, bDbl T.2.1, T.2.2) ∧ FrR M M' → P none M') → P none (mW1 (mW1 (mW1 M 50 12 (M 50 12 + nI 1)) 50 13 (nI 0)) 50 6 (M 50 6 + nI 1 - (M 50 6 + nI 1) / nI 4 * nI 4)) := fun k hP => by
    have ht : T.2.1.1.1 < 4 := hI.2.1.1
    have h6 : M 50 6 = nI T.2.1.1.1 := hR.1.2.1.trans (turnI_1 k)
    have h12 : M 50 12 = nI T.2.1.1.2.1 := hR.2.1.2.2.2.2.1
    rw [h6, h12, nI_add, nI_add, nI_mod4 (by omega)]
    refine hP _ (hR.bd (b' := bDbl T.2.1) hI k mW1_s (hR.2.1.dbl (b' := bDbl T.2.1) rfl ?_ ?_ (fun k a b => ?_) (fun c hc => ?_)) (fun k a b => ?_) (fun c hc => ?_))
    · rw [mW1_k (by decide), mW1_k (by decide), mW1_s]
      rfl
    · rw [mW1_k (by decide), mW1_s]
      rfl
    · rw [mW1_k (by omega), mW1_k (by omega), mW1_k (by omega)]
    · rw [mW1_c (by omega), mW1_c (by omega), mW1_c (by omega)]
    · rw [mW1_k (by omega), mW1_k (by omega), mW1_k (by omega)]
    · rw [mW1_c (by omega), mW1_c (by omega), mW1_c (by omega)]
  clear hdbl
  have hne : ∀ k, k < 9 → w ≠ k → ¬ nI w = nI k := fun k hk h z => h ((nI_eq (by omega) (by omega)).mp z)
  refine v_da g M P _ _ _ ⟨fun z => ?_, fun z0 => ⟨fun z => ?_, fun z1 => ⟨fun z => ?_, fun z2 => ⟨fun z => ?_, fun z3 => ⟨fun z => ?_, fun z4 => ⟨fun z => ?_, fun z5 => ⟨fun z => ?_, fun z6 => ⟨fun z => ?_, fun z7 => ?_⟩⟩⟩⟩⟩⟩⟩⟩
  · obtain rfl := (nI_eq (by omega) (by decide)).mp z
    exact ⟨(T, y), ⟨rfl, hR⟩, fun M2 k => hP M2 k⟩
  · obtain rfl := (nI_eq (by omega) (by decide)).mp z
    obtain ⟨g1, g2, g3, g4⟩ := f1 rfl
    refine ⟨(T, ub y, ub s), ⟨by rw [nI_ub, nI_ub], hR, hI, g1, g4⟩, fun M2 k => hP M2 k⟩
  · obtain rfl := (nI_eq (by omega) (by decide)).mp z
    exact ⟨T, ⟨rfl, hR, hI, (f2 rfl).1⟩, fun M2 k => hP M2 k⟩
  · obtain rfl := (nI_eq (by omega) (by decide)).mp z
    intro M11 M12
    refine ⟨n4, ?_⟩
    exact dbl (f3 rfl).1 hP
  · obtain rfl := (nI_eq (by omega) (by decide)).mp z
    intro M11 M12
    refine ⟨n4, ?_⟩
    exact dbl (f4 rfl).1 hP
  · obtain rfl := (nI_eq (by omega) (by decide)).mp z
    obtain ⟨g1, g2, g3, g4⟩ := f5 rfl
    obtain ⟨n, t, q, d, c1, c2, c3, c3', c3'', c3n, c4, c5, c6, c7, c8⟩ := hI.2.2.2.1 g1
    have e : nI 8 * s + y = nI (8 * ub s + ub y) := by
      rw [← nI_ub s, ← nI_ub y, pk_mul, nI_add, ub_nI (ub_lt s), ub_nI (ub_lt y)]
    rw [e]
    refine ⟨(T.2.2.1.1, T.2.2.1.2.1, T.2.2.1.2.2.2.2, 8 * ub s + ub y), ⟨rfl, hR.Q hI g1, c7, c8, by show 8 * ub s + ub y < 32; omega, aAl_sub g4⟩, fun M20 h20 => ?_⟩
    obtain ⟨q1, q2⟩ := h20
    dsimp only at q1
    obtain ⟨r1, r2⟩ := hR.add hI g1 q1 q2
    have hlen : (T.2.2.1.2.2.2.2 ++ [8 * ub s + ub y]).length = T.2.2.1.2.2.2.2.length + 1 := by rw [List.length_append, List.length_singleton]
    have e19 : M20 50 19 = nI ((T.2.2.1.2.2.2.2.length + 1) / 4) := by rw [← hlen]; exact q1.1.1
    have et : tStep T (5, y, s) = tPlay T (8 * ub s + ub y) := rfl
    rw [et] at hP
    unfold tPlay at hP
    rw [e19]
    refine ⟨fun hz => ?_, fun hz => ?_⟩
    · have hz' : ¬ T.2.2.1.2.2.2.2.length + 1 = 32 := fun y => hz (by rw [y])
      rw [if_neg hz'] at hP
      exact hP M20 ⟨r2 (by omega), q2.R⟩
    · have hz' := (nI_eq (b := 8) (by omega) (by decide)).mp (Classical.not_not.mp hz)
      rw [if_pos (by omega)] at hP
      refine ⟨((T.1, T.2.1, pAdd T.2.2.1 (8 * ub s + ub y), T.2.2.2), 1), ⟨rfl, r1, hI.1.2.1, ?_, Or.inr ⟨rfl, endOk_of hI g1⟩⟩, fun M23 h23 => ?_⟩
      · show (T.2.2.1.2.2.2.2 ++ [8 * ub s + ub y]).length ≤ 32
        rw [hlen]
        exact c8
      · obtain ⟨s1, s2⟩ := h23
        dsimp only at s1
        rw [if_neg (by decide)] at s1
        exact hP M23 ⟨s1, q2.R.trans s2⟩
  · obtain rfl := (nI_eq (by omega) (by decide)).mp z
    obtain ⟨g1, g2, -⟩ := f6 rfl
    obtain ⟨n, t, q, d, c1, c2, c3, c3', c3'', c3n, c4, c5, c6, c7, c8⟩ := hI.2.2.2.1 g1
    have h6 : M 50 6 = nI (aTn T.2.2.1.1 T.2.2.1.2.2.2.2 T.2.2.1.2.2.2.2.length) := hR.1.2.1.trans (turnI_2 g1)
    have ht4 := aTn_lt (x := T.2.2.1.1) (cs := T.2.2.1.2.2.2.2) (j := T.2.2.1.2.2.2.2.length)
    have hsd : fSide (M 50 6) = nI (aSd T.2.2.1.1 T.2.2.1.2.2.2.2) := by
      rw [h6, fSide_nI (by omega)]
      rfl
    have hs2 := aSd_lt (x := T.2.2.1.1) (cs := T.2.2.1.2.2.2.2)
    have h19 : M 50 19 = nI (T.2.2.1.2.2.2.2.length / 4) := hR.2.2.1.1
    rw [hsd, h19, show nI 1 - nI (aSd T.2.2.1.1 T.2.2.1.2.2.2.2) = nI (1 - aSd T.2.2.1.1 T.2.2.1.2.2.2.2) from pk_sub (by omega), show nI 8 - nI (T.2.2.1.2.2.2.2.length / 4) - y = nI (8 - T.2.2.1.2.2.2.2.length / 4 - ub y) by rw [pk_sub (by omega), ← nI_ub y, pk_sub g2, ub_nI (ub_lt y)]]
    have et : tStep T (6, y, s) = tClaim T (ub y) := rfl
    rw [et] at hP
    unfold tClaim at hP
    generalize hsdd : aSd T.2.2.1.1 T.2.2.1.2.2.2.2 = sd at hs2 ⊢
    have c0 : (nI sd).toNatClampNeg = sd := nI_clamp (by omega)
    have c1' : (nI (1 - sd)).toNatClampNeg = 1 - sd := nI_clamp (by omega)
    rw [c0, c1']
    refine ⟨vp_in_nI hs2 (by decide), vp_in_nI hs2 (by decide), ?_⟩
    intro M25
    refine ⟨vp_in_nI (by omega) (by decide), vp_in_nI (by omega) (by decide), ?_⟩
    intro M26
    have c26 : ∀ c, c ≠ 63 → M26 c = M c := fun c h => by
      show mW1 (mW1 M 63 _ _) 63 _ _ c = _
      rw [mW1_c h, mW1_c h]
    have w26 : ∀ r, r < 2 → M26 63 r = M 63 r + nI (if sd = r then ub y else 8 - T.2.2.1.2.2.2.2.length / 4 - ub y) := fun r hr => by
      show mW1 (mW1 M 63 sd (M 63 sd + y)) 63 (1 - sd) (mW1 M 63 sd (M 63 sd + y) 63 (1 - sd) + _) 63 r = _
      by_cases e : r = 1 - sd
      · rw [e, mW1_s, mW1_k (by omega), if_neg (by omega)]
      · have e2 : r = sd := by omega
        rw [mW1_k e, e2, mW1_s, if_pos rfl, nI_ub]
    have hwon := hR.2.2.1
    obtain ⟨r1, r2, r3, r4, r5, r6, r7, r8, r9⟩ := hwon
    have hP26 : RmP M26 (pClaim T.2.2.1 (ub y)).1 (pClaim T.2.2.1 (ub y)).2.1 (pClaim T.2.2.1 (ub y)).2.2.1 (pClaim T.2.2.1 (ub y)).2.2.2.1 (pClaim T.2.2.1 (ub y)).2.2.2.2 := by
      refine ⟨?_, fun q hq => ?_, fun q hq => ?_, fun i hi => ?_, fun i j hj h => ?_, fun i h => ?_, fun i hi => ?_, ?_, ?_⟩
      · rw [c26 50 (by decide)]
        exact r1
      · rw [c26 58 (by decide)]
        exact r2 q hq
      · rw [c26 59 (by decide)]
        exact r3 q hq
      · rw [c26 61 (by decide)]
        exact r4 i hi
      · rw [c26 (65 + i) (by have : 4 * i + j < T.2.2.1.2.2.2.2.length := h; omega)]
        exact r5 i j hj h
      · rw [c26 60 (by decide)]
        exact r6 i h
      · rw [c26 62 (by decide)]
        exact r7 i hi
      · rw [w26 0 (by decide), r8]
        show _ = _ + (T.2.2.1.2.2.1 + nI (if aSd T.2.2.1.1 T.2.2.1.2.2.2.2 = 0 then ub y else 8 - T.2.2.1.2.2.2.2.length / 4 - ub y))
        rw [hsdd, Int32.add_assoc]
        rfl
      · rw [w26 1 (by decide), r9]
        show _ = _ + (T.2.2.1.2.2.2.1 + nI (if aSd T.2.2.1.1 T.2.2.1.2.2.2.2 = 1 then ub y else 8 - T.2.2.1.2.2.2.2.length / 4 - ub y))
        rw [hsdd, Int32.add_assoc]
        rfl
    have k50 : ∀ k, M26 50 k = M 50 k := fun k => congrFun (c26 50 (by decide)) k
    have hW : RmW M26 (T.1, T.2.1, pClaim T.2.2.1 (ub y), T.2.2.2) := ⟨⟨(k50 7).trans hR.1.2.2.1, (k50 14).trans hR.1.2.2.2.1, (k50 15).trans hR.1.2.2.2.2⟩, RmB_fr hR.2.1 (fun k _ _ => k50 k) (fun c hc => c26 c (by omega)), hP26, RmSc_fr hR.2.2.2.1 (fun k _ _ => k50 k) (fun c hc => c26 c (by omega))⟩
    refine ⟨((T.1, T.2.1, pClaim T.2.2.1 (ub y), T.2.2.2), 1), ⟨rfl, hW, hI.1.2.1, hI.len, Or.inr ⟨rfl, endOk_of hI g1⟩⟩, fun M28 h28 => ?_⟩
    obtain ⟨s1, s2⟩ := h28
    dsimp only at s1
    rw [if_neg (by decide)] at s1
    exact hP M28 ⟨s1, FrR.trans ⟨fun c hc => c26 c (by omega), fun k _ => k50 k⟩ s2⟩
  · obtain rfl := (nI_eq (by omega) (by decide)).mp z
    obtain ⟨g1, g2, -⟩ := f7 rfl
    intro M30
    have c30 : ∀ c, c ≠ 50 → M30 c = M c := fun c h => mW1_c h
    have k30 : ∀ k, k ≠ 14 → M30 50 k = M 50 k := fun k h => mW1_k h
    refine hP M30 ⟨⟨⟨(k30 5 (by decide)).trans hR.1.1, ?_, (k30 7 (by decide)).trans hR.1.2.2.1, ?_, (k30 15 (by decide)).trans hR.1.2.2.2.2⟩, RmB_fr hR.2.1 (fun k a b => k30 k (by omega)) (fun c hc => c30 c (by omega)), RmP_fr hR.2.2.1 (k30 19 (by decide)) (fun c a b => c30 c (by omega)) hI.len, RmSc_fr hR.2.2.2.1 (fun k a b => k30 k (by omega)) (fun c hc => c30 c (by omega)), fun z => ?_⟩, fun c hc => c30 c (by omega), fun k hk => k30 k (by omega)⟩
    · rw [k30 6 (by decide), hR.1.2.1, turnI_0 g1]
      exact (turnI_0 (T := tStep T (7, y, s)) g1).symm
    · exact (mW1_s : M30 50 14 = y).trans (nI_ub y).symm
    · have z' : T.1.1 = 2 := z
      omega
  · have hw8 : w = 8 := by
      rcases (by omega : w = 0 ∨ w = 1 ∨ w = 2 ∨ w = 3 ∨ w = 4 ∨ w = 5 ∨ w = 6 ∨ w = 7 ∨ w = 8) with rfl | rfl | rfl | rfl | rfl | rfl | rfl | rfl | rfl <;> first | rfl | contradiction
    subst hw8
    obtain ⟨g1, g2, -⟩ := f8 rfl
    intro M30
    have c30 : ∀ c, c ≠ 50 → M30 c = M c := fun c h => mW1_c h
    have k30 : ∀ k, k ≠ 15 → M30 50 k = M 50 k := fun k h => mW1_k h
    refine hP M30 ⟨⟨⟨(k30 5 (by decide)).trans hR.1.1, ?_, (k30 7 (by decide)).trans hR.1.2.2.1, (k30 14 (by decide)).trans hR.1.2.2.2.1, ?_⟩, RmB_fr hR.2.1 (fun k a b => k30 k (by omega)) (fun c hc => c30 c (by omega)), RmP_fr hR.2.2.1 (k30 19 (by decide)) (fun c a b => c30 c (by omega)) hI.len, RmSc_fr hR.2.2.2.1 (fun k a b => k30 k (by omega)) (fun c hc => c30 c (by omega)), fun z => ?_⟩, fun c hc => c30 c (by omega), fun k hk => k30 k (by omega)⟩
    · rw [k30 6 (by decide), hR.1.2.1, turnI_0 g1]
      exact (turnI_0 (T := tStep T (8, y, s)) g1).symm
    · exact (mW1_s : M30 50 15 = y).trans (nI_ub y).symm
    · have z' : T.1.1 = 2 := z
      omega
theorem run_X8_doesAct : mRunOf 4 t_X8_doesAct f_X8_doesAct := fun g as M P hT => by
  obtain ⟨⟨T, w, y, s⟩, ⟨rfl, h2, h3, h4⟩, hP⟩ := hT
  refine ⟨Nat.le_of_ble_eq_true rfl, ?_⟩
  dsimp only at h2 h3 h4
  exact da_run g M P T w y s h2 h3 h4 (fun M' a => hP M' a)
theorem ok_X8_doesAct : mOK yX8_doesAct cX8_doesAct 4 (none) 5 t_X8_doesAct := mOK.of f_X8_doesAct (by decide) (fun _ => rfl) (fun g => mCodeOK kk_X8_doesAct) (fun g => mFldL fk_RX8 rfl) (fun g idx v h => by cases h) (fun g idx v h => by cases h) (mCalL (l := l_X8_doesAct) (List.forall_mem_cons.mpr ⟨mSite.V (idx := 182) ok_X8_deals (by decide) (by decide) rv_X8_deals wc_X8_deals wk_RX8_182 wi_X8_deals wl_X8_deals wn_RX8 wd_X8_deals, List.forall_mem_cons.mpr ⟨mSite.V (idx := 185) ok_X8_bids (by decide) (by decide) rv_X8_bids wc_X8_bids wk_RX8_185 wi_X8_bids wl_X8_bids wn_RX8 wd_X8_bids, List.forall_mem_cons.mpr ⟨mSite.V (idx := 189) ok_X8_passes (by decide) (by decide) rv_X8_passes wc_X8_passes wk_RX8_189 wi_X8_passes wl_X8_passes wn_RX8 wd_X8_passes, List.forall_mem_cons.mpr ⟨mSite.V (idx := 191) ok_X8_plays (by decide) (by decide) rv_X8_plays wc_X8_plays wk_RX8_191 wi_X8_plays wl_X8_plays wn_RX8 wd_X8_plays, List.forall_mem_cons.mpr ⟨mSite.V (idx := 171) ok_X8_endsDeal (by decide) (by decide) rv_X8_endsDeal wc_X8_endsDeal wk_RX8_171 wi_X8_endsDeal wl_X8_endsDeal wn_RX8 wd_X8_endsDeal, List.forall_mem_cons.mpr ⟨mSite.S (idx := 151) ok_X8_side (by decide) (by decide) wc_X8_side wk_RX8_151 wt_X8_side wn_RX8 wd_X8_side, fun _ h => absurd h List.not_mem_nil⟩⟩⟩⟩⟩⟩) (fun _ => rfl)) run_X8_doesAct

def RmL (M : mM) (n : Nat) (l : List aE) : Prop := ∀ i, i < n → M 51 i = nI (eA l i).1.1 ∧ M 52 i = (eA l i).1.2.1 ∧ M 53 i = (eA l i).1.2.2 ∧ M 54 i = (eA l i).2
theorem RmL_fr {M M' : mM} {n : Nat} {l : List aE} (h : RmL M n l) (e : ∀ c, 51 ≤ c → c ≤ 54 → M' c = M c) : RmL M' n l := fun i hi => by
  rw [e 51 (by decide) (by decide), e 52 (by decide) (by decide), e 53 (by decide) (by decide), e 54 (by decide) (by decide)]
  exact h i hi
def pre_X8_goesThrough (q : Nat × List aE) (as : List mV) (M : mM) : Prop := as = [.inr (some 50), .inl (nI q.1)] ∧ RmL M q.1 q.2 ∧ lInv q.2 ∧ q.1 ≤ q.2.length
def post_X8_goesThrough (q : Nat × List aE) (_ : List mV) (M : mM) (M' : mM) : Prop := RmT M' (zT (q.2.take q.1)) ∧ FrR M M'
abbrev t_X8_goesThrough : mG → mT := mRv pre_X8_goesThrough post_X8_goesThrough
theorem mo_X8_goesThrough : mMn t_X8_goesThrough := mRv_mono
theorem rv_X8_goesThrough : mHasR yX8_goesThrough 1 t_X8_goesThrough := by
  intro g as M P hT hl
  obtain ⟨q, ⟨h2, -⟩, -⟩ := hT
  exact ⟨_, _, h2, is_X8 g _ rfl⟩
def k_X8_goesThrough : List (Nat × mI) := [(0, .aload_n 0, 1, 0, 0, []),
  (1, .invokevirtual 76, 3, 0, 0, []),
  (4, .iconst 0, 1, 0, nI 0, []),
  (5, .istore_n 2, 1, 2, 0, []),
  (6, .iload_n 2, 1, 2, 0, []),
  (7, .iload_n 1, 1, 1, 0, []),
  (8, .if_icmp .ge 31, 3, 39, 0, []),
  (11, .aload_n 0, 1, 0, 0, []),
  (12, .aload_n 0, 1, 0, 0, []),
  (13, .getfield 9, 3, 0, 0, []),
  (16, .iload_n 2, 1, 2, 0, []),
  (17, .iaload, 1, 0, 0, []),
  (18, .aload_n 0, 1, 0, 0, []),
  (19, .getfield 13, 3, 0, 0, []),
  (22, .iload_n 2, 1, 2, 0, []),
  (23, .iaload, 1, 0, 0, []),
  (24, .aload_n 0, 1, 0, 0, []),
  (25, .getfield 16, 3, 0, 0, []),
  (28, .iload_n 2, 1, 2, 0, []),
  (29, .iaload, 1, 0, 0, []),
  (30, .invokevirtual 194, 3, 0, 0, []),
  (33, .iinc 2 1, 3, 2, nI 1, []),
  (36, .goto (-30), 3, 6, 0, []),
  (39, .return_, 1, 0, 0, [])]
theorem kk_X8_goesThrough : (k_X8_goesThrough.all fun e => mChk cX8_goesThrough e.1 e.2) = true := by decide +kernel
def l_X8_goesThrough : List (Nat × Nat × (mG → mT)) := [(3 * 76, 0 + 1, t_X8_begins), (3 * 194, 3 + 1, t_X8_doesAct)]
def f_X8_goesThrough (g : mG) : mF := (mLk k_X8_goesThrough, mLk fl_RX8, mLk (l_X8_goesThrough.map fun e => (e.1, e.2.1, e.2.2 g)), mLk ([] : List (Nat × mV)), mLk ([] : List (Nat × mV)), none)
theorem m_X8_goesThrough (g : mG) : mMono (f_X8_goesThrough g) := mMonoL (g := g) (l := l_X8_goesThrough) (List.forall_mem_cons.mpr ⟨mo_X8_begins, List.forall_mem_cons.mpr ⟨mo_X8_doesAct, fun _ h => absurd h List.not_mem_nil⟩⟩) rfl

theorem v_gh_0 (g : mG) (M : mM) (P : mP) (n : Int32)
    (h : ∃ x1 : mM, pre_X8_begins x1 [.inr (some 50)] M ∧ ∀ M2 : mM, post_X8_begins x1 [.inr (some 50)] M M2 → (mRun (mSx g) (f_X8_goesThrough g) P (6, [some (.inr (some 50)), some (.inl n), some (.inl (nI 0))], [], M2))) :
    mRun (mSx g) (f_X8_goesThrough g) P (0, [some (.inr (some 50)), some (.inl n), none], [], M) := mRun.vc (m_X8_goesThrough g) [6] 5 h

theorem v_gh_6 (g : mG) (M : mM) (P : mP) (n i : Int32)
    (h : (n ≤ i → P none M) ∧ (¬ (n ≤ i) → vp_in i 90 ∧ (vp_in i 90 ∧ (vp_in i 90 ∧ (∃ x2 : aT × Nat × Int32 × Int32, pre_X8_doesAct x2 [.inr (some 50), .inl (M 51 i.toNatClampNeg), .inl (M 52 i.toNatClampNeg), .inl (M 53 i.toNatClampNeg)] M ∧ ∀ M3 : mM, post_X8_doesAct x2 [.inr (some 50), .inl (M 51 i.toNatClampNeg), .inl (M 52 i.toNatClampNeg), .inl (M 53 i.toNatClampNeg)] M M3 → (mRun (mSx g) (f_X8_goesThrough g) P (6, [some (.inr (some 50)), some (.inl n), some (.inl (i + (nI 1)))], [], M3))))))) :
    mRun (mSx g) (f_X8_goesThrough g) P (6, [some (.inr (some 50)), some (.inl n), some (.inl i)], [], M) := mRun.vc (m_X8_goesThrough g) [6] 20 h

theorem gh_loop (g : mG) (P : mP) (M0 : mM) (l : List aE) (n : Nat) (hL : RmL M0 n l) (hI : lInv l) (hn : n ≤ l.length) (hP : ∀ M', RmT M' (zT (l.take n)) ∧ FrR M0 M' → P none M') :
    ∀ (j i : Nat) (M : mM), i + j = n → RmT M (zT (l.take i)) → FrR M0 M → mRun (mSx g) (f_X8_goesThrough g) P (6, [some (.inr (some 50)), some (.inl (nI n)), some (.inl (nI i))], [], M)
  | 0, i, M, h, hR, hF => by
    obtain rfl : i = n := by omega
    exact v_gh_6 g M P _ _ ⟨fun _ => hP M ⟨hR, hF⟩, fun z => absurd (nI_le (Nat.le_refl i) (by have := hI.1; omega)) z⟩
  | j + 1, i, M, h, hR, hF => by
    have hlen := hI.1
    have ci : (nI i).toNatClampNeg = i := nI_clamp (by omega)
    refine v_gh_6 g M P _ _ ⟨fun z => absurd z (nI_ge (by omega) (by omega)), fun _ => ⟨vp_in_nI (by omega) (by decide), vp_in_nI (by omega) (by decide), vp_in_nI (by omega) (by decide), ?_⟩⟩
    obtain ⟨a1, a2, a3, -⟩ := hL i (by omega)
    rw [ci, hF.1 51 (by decide), hF.1 52 (by decide), hF.1 53 (by decide), a1, a2, a3]
    refine ⟨(zT (l.take i), (eA l i).1.1, (eA l i).1.2.1, (eA l i).1.2.2), ⟨rfl, hR, zT_inv (lInv_take i hI), zT_fit (by omega) hI⟩, fun M2 k => ?_⟩
    rw [nI_add]
    have e := zT_next (l := l) (i := i) (by omega)
    refine gh_loop g P M0 l n hL hI hn hP j (i + 1) M2 (by omega) ?_ (hF.trans k.2)
    rw [e]
    exact k.1
theorem run_X8_goesThrough : mRunOf 3 t_X8_goesThrough f_X8_goesThrough := fun g as M P hT => by
  obtain ⟨⟨n, l⟩, ⟨rfl, h3, h4, h5⟩, hP⟩ := hT
  refine ⟨Nat.le_of_ble_eq_true rfl, ?_⟩
  dsimp only at h3 h4 h5
  refine v_gh_0 g M P _ ⟨M, ⟨rfl, rfl⟩, fun M1 k => ?_⟩
  obtain ⟨k1, k2⟩ := k
  exact gh_loop g P M1 l n (RmL_fr h3 (fun c a b => k2.1 c (by omega))) h4 h5 (fun M' h => hP M' ⟨h.1, k2.trans h.2⟩) n 0 M1 (by omega) (by rw [List.take_zero]; exact k1) FrR.refl
theorem ok_X8_goesThrough : mOK yX8_goesThrough cX8_goesThrough 3 (none) 6 t_X8_goesThrough := mOK.of f_X8_goesThrough (by decide) (fun _ => rfl) (fun g => mCodeOK kk_X8_goesThrough) (fun g => mFldL fk_RX8 rfl) (fun g idx v h => by cases h) (fun g idx v h => by cases h) (mCalL (l := l_X8_goesThrough) (List.forall_mem_cons.mpr ⟨mSite.V (idx := 76) ok_X8_begins (by decide) (by decide) rv_X8_begins wc_X8_begins wk_RX8_76 wi_X8_begins wl_X8_begins wn_RX8 wd_X8_begins, List.forall_mem_cons.mpr ⟨mSite.V (idx := 194) ok_X8_doesAct (by decide) (by decide) rv_X8_doesAct wc_X8_doesAct wk_RX8_194 wi_X8_doesAct wl_X8_doesAct wn_RX8 wd_X8_doesAct, fun _ h => absurd h List.not_mem_nil⟩⟩) (fun _ => rfl)) run_X8_goesThrough

