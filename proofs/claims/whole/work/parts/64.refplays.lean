/-! ===== THE REFERENCE: a card is played ===== -/
theorem fSide_nI {n : Nat} (h : n < 2 ^ 31) : fSide (nI n) = nI (n % 2) := pk_rem h (by decide) (by decide)
def pre_X8_plays (q : aX × (Nat → Int32) × List Nat × Nat) (as : List mV) (M : mM) : Prop := as = [.inr (some 50), .inl (nI q.2.2.2)] ∧ RmQ M q.1 q.2.1 q.2.2.1 ∧ aOk q.1 q.2.1 q.2.2.1 ∧ q.2.2.1.length < 32 ∧ q.2.2.2 < 32 ∧ bt (aHd q.2.1 q.2.2.1 (aTn q.1 q.2.2.1 q.2.2.1.length)) q.2.2.2 = true
def post_X8_plays (q : aX × (Nat → Int32) × List Nat × Nat) (_ : List mV) (M : mM) (M' : mM) : Prop := RmQ M' q.1 q.2.1 (q.2.2.1 ++ [q.2.2.2]) ∧ FrQ M M'
abbrev t_X8_plays : mG → mT := mRv pre_X8_plays post_X8_plays
theorem mo_X8_plays : mMn t_X8_plays := mRv_mono
theorem rv_X8_plays : mHasR yX8_plays 1 t_X8_plays := by
  intro g as M P hT hl
  obtain ⟨q, ⟨h2, -⟩, -⟩ := hT
  exact ⟨_, _, h2, is_X8 g _ rfl⟩
def k_X8_plays : List (Nat × mI) := [(0, .aload_n 0, 1, 0, 0, []),
  (1, .getfield 27, 3, 0, 0, []),
  (4, .aload_n 0, 1, 0, 0, []),
  (5, .getfield 103, 3, 0, 0, []),
  (8, .dup2, 1, 0, 0, []),
  (9, .iaload, 1, 0, 0, []),
  (10, .iload_n 1, 1, 1, 0, []),
  (11, .invokestatic 143, 3, 0, 0, []),
  (14, .iconst (-1), 1, 0, -1, []),
  (15, .ixor, 1, 0, 0, []),
  (16, .iand, 1, 0, 0, []),
  (17, .iastore, 1, 0, 0, []),
  (18, .aload_n 0, 1, 0, 0, []),
  (19, .getfield 45, 3, 0, 0, []),
  (22, .aload_n 0, 1, 0, 0, []),
  (23, .getfield 97, 3, 0, 0, []),
  (26, .aaload, 1, 1, 0, []),
  (27, .aload_n 0, 1, 0, 0, []),
  (28, .getfield 36, 3, 0, 0, []),
  (31, .aload_n 0, 1, 0, 0, []),
  (32, .getfield 97, 3, 0, 0, []),
  (35, .iaload, 1, 0, 0, []),
  (36, .iload_n 1, 1, 1, 0, []),
  (37, .iastore, 1, 1, 0, []),
  (38, .aload_n 0, 1, 0, 0, []),
  (39, .getfield 36, 3, 0, 0, []),
  (42, .aload_n 0, 1, 0, 0, []),
  (43, .getfield 97, 3, 0, 0, []),
  (46, .dup2, 1, 0, 0, []),
  (47, .iaload, 1, 0, 0, []),
  (48, .iconst 1, 1, 0, nI 1, []),
  (49, .iadd, 1, 0, 0, []),
  (50, .iastore, 1, 0, 0, []),
  (51, .aload_n 0, 1, 0, 0, []),
  (52, .getfield 36, 3, 0, 0, []),
  (55, .aload_n 0, 1, 0, 0, []),
  (56, .getfield 97, 3, 0, 0, []),
  (59, .iaload, 1, 0, 0, []),
  (60, .iconst 4, 1, 0, nI 4, []),
  (61, .if_icmp .ge 16, 3, 77, 0, []),
  (64, .aload_n 0, 1, 0, 0, []),
  (65, .aload_n 0, 1, 0, 0, []),
  (66, .getfield 103, 3, 0, 0, []),
  (69, .iconst 1, 1, 0, nI 1, []),
  (70, .iadd, 1, 0, 0, []),
  (71, .iconst 4, 1, 0, nI 4, []),
  (72, .irem, 1, 0, 0, []),
  (73, .putfield 103, 3, 0, 0, []),
  (76, .return_, 1, 0, 0, []),
  (77, .aload_n 0, 1, 0, 0, []),
  (78, .aload_n 0, 1, 0, 0, []),
  (79, .getfield 97, 3, 0, 0, []),
  (82, .aload_n 0, 1, 0, 0, []),
  (83, .getfield 82, 3, 0, 0, []),
  (86, .aload_n 0, 1, 0, 0, []),
  (87, .getfield 109, 3, 0, 0, []),
  (90, .invokevirtual 179, 3, 0, 0, []),
  (93, .istore_n 2, 1, 2, 0, []),
  (94, .aload_n 0, 1, 0, 0, []),
  (95, .getfield 39, 3, 0, 0, []),
  (98, .aload_n 0, 1, 0, 0, []),
  (99, .getfield 97, 3, 0, 0, []),
  (102, .iload_n 2, 1, 2, 0, []),
  (103, .iastore, 1, 0, 0, []),
  (104, .aload_n 0, 1, 0, 0, []),
  (105, .getfield 42, 3, 0, 0, []),
  (108, .iload_n 2, 1, 2, 0, []),
  (109, .invokestatic 151, 3, 0, 0, []),
  (112, .dup2, 1, 0, 0, []),
  (113, .iaload, 1, 0, 0, []),
  (114, .iconst 1, 1, 0, nI 1, []),
  (115, .iadd, 1, 0, 0, []),
  (116, .iastore, 1, 0, 0, []),
  (117, .aload_n 0, 1, 0, 0, []),
  (118, .dup, 1, 0, 0, []),
  (119, .getfield 97, 3, 0, 0, []),
  (122, .iconst 1, 1, 0, nI 1, []),
  (123, .iadd, 1, 0, 0, []),
  (124, .putfield 97, 3, 0, 0, []),
  (127, .aload_n 0, 1, 0, 0, []),
  (128, .iload_n 2, 1, 2, 0, []),
  (129, .putfield 103, 3, 0, 0, []),
  (132, .aload_n 0, 1, 0, 0, []),
  (133, .getfield 97, 3, 0, 0, []),
  (136, .bipush 8, 2, 0, nI 8, []),
  (138, .if_icmp .ge 8, 3, 146, 0, []),
  (141, .aload_n 0, 1, 0, 0, []),
  (142, .iload_n 2, 1, 2, 0, []),
  (143, .invokevirtual 175, 3, 0, 0, []),
  (146, .return_, 1, 0, 0, [])]
theorem kk_X8_plays : (k_X8_plays.all fun e => mChk cX8_plays e.1 e.2) = true := by decide +kernel
def l_X8_plays : List (Nat × Nat × (mG → mT)) := [(3 * 143 + 1, 1, t_X8_bit), (3 * 179, 3 + 1, t_X8_wonBy), (3 * 151 + 1, 1, t_X8_side), (3 * 175, 1 + 1, t_X8_leads)]
def f_X8_plays (g : mG) : mF := (mLk k_X8_plays, mLk fl_RX8, mLk (l_X8_plays.map fun e => (e.1, e.2.1, e.2.2 g)), mLk ([] : List (Nat × mV)), mLk ([] : List (Nat × mV)), none)
theorem m_X8_plays (g : mG) : mMono (f_X8_plays g) := mMonoL (g := g) (l := l_X8_plays) (List.forall_mem_cons.mpr ⟨mo_X8_bit, List.forall_mem_cons.mpr ⟨mo_X8_wonBy, List.forall_mem_cons.mpr ⟨mo_X8_side, List.forall_mem_cons.mpr ⟨mo_X8_leads, fun _ h => absurd h List.not_mem_nil⟩⟩⟩⟩) rfl

theorem v_pl_0 (g : mG) (M : mM) (P : mP) (c : Int32)
    (h : vp_in (M 50 6) 4 ∧ (vp_in (M 50 6) 4 ∧ (let M1 : mM := mW1 M 58 ((M 50 6).toNatClampNeg) ((M 58 ((M 50 6).toNatClampNeg)) &&& ((fSh1 c) ^^^ (-1))); ∃ (n2 k3 c4 : Nat) (rs5 : List (Option Nat)), (mSx g)[64]? = some (1, n2, rs5) ∧ (M 50 19) = nI k3 ∧ k3 < n2 ∧ n2 < 2 ^ 31 ∧ rs5[k3]? = some (some c4) ∧ (vp_in (M 50 19) 8 ∧ (∃ (n6 : Nat) (rs7 : List (Option Nat)), (mSx g)[c4]? = some (0, n6, rs7) ∧ vp_in (M 61 ((M 50 19).toNatClampNeg)) n6 ∧ (let M8 : mM := mW1 M1 c4 ((M 61 ((M 50 19).toNatClampNeg)).toNatClampNeg) c; vp_in (M8 50 19) 8 ∧ (vp_in (M8 50 19) 8 ∧ (let M9 : mM := mW1 M8 61 ((M8 50 19).toNatClampNeg) ((M8 61 ((M8 50 19).toNatClampNeg)) + (nI 1)); mRun (mSx g) (f_X8_plays g) P (51, [some (.inr (some 50)), some (.inl c), none], [], M9))))))))) :
    mRun (mSx g) (f_X8_plays g) P (0, [some (.inr (some 50)), some (.inl c), none], [], M) := mRun.vc (m_X8_plays g) [51] 34 h

theorem v_pl_51 (g : mG) (M : mM) (P : mP) (c : Int32)
    (h : vp_in (M 50 19) 8 ∧ (((nI 4) ≤ (M 61 ((M 50 19).toNatClampNeg)) → mRun (mSx g) (f_X8_plays g) P (77, [some (.inr (some 50)), some (.inl c), none], [], M)) ∧ (¬ ((nI 4) ≤ (M 61 ((M 50 19).toNatClampNeg))) → ¬ (nI 4) = 0 ∧ (let M2 : mM := mW1 M 50 6 (((M 50 6) + (nI 1)) - ((M 50 6) + (nI 1)) / (nI 4) * (nI 4)); P none M2)))) :
    mRun (mSx g) (f_X8_plays g) P (51, [some (.inr (some 50)), some (.inl c), none], [], M) := mRun.vc (m_X8_plays g) [77] 16 h

set_option maxRecDepth 100000 in
theorem v_pl_77 (g : mG) (M : mM) (P : mP) (c : Int32)
    (h : ∃ x1 : Nat × Int32 × Nat × List Nat × Nat, pre_X8_wonBy x1 [.inr (some 50), .inl (M 50 19), .inl (M 50 9), .inl (M 50 14)] M ∧ ∀ (r3 : Int32) (M2 : mM), post_X8_wonBy x1 [.inr (some 50), .inl (M 50 19), .inl (M 50 9), .inl (M 50 14)] M r3 M2 → (vp_in (M2 50 19) 8 ∧ (let M4 : mM := mW1 M2 62 ((M2 50 19).toNatClampNeg) r3; vp_in (fSide r3) 2 ∧ (vp_in (fSide r3) 2 ∧ (let M5 : mM := mW1 M4 63 ((fSide r3).toNatClampNeg) ((M2 63 ((fSide r3).toNatClampNeg)) + (nI 1)); let M6 : mM := mW1 M5 50 19 ((M2 50 19) + (nI 1)); let M7 : mM := mW1 M6 50 6 r3; ((nI 8) ≤ ((M2 50 19) + (nI 1)) → P none M7) ∧ (¬ ((nI 8) ≤ ((M2 50 19) + (nI 1))) → let M9 : mM := mW1 M7 50 6 r3; vp_in ((M2 50 19) + (nI 1)) 8 ∧ (let M10 : mM := mW1 M9 60 (((M2 50 19) + (nI 1)).toNatClampNeg) r3; P none M10))))))) :
    mRun (mSx g) (f_X8_plays g) P (77, [some (.inr (some 50)), some (.inl c), none], [], M) := mRun.vc (m_X8_plays g) [] 41 h

theorem pl_run (g : mG) (M : mM) (P : mP) (x : aX) (dl : Nat → Int32) (cs : List Nat) (c : Nat) (hQ : RmQ M x dl cs) (hok : aOk x dl cs) (hn : cs.length < 32) (hc : c < 32) (hb : bt (aHd dl cs (aTn x cs cs.length)) c = true)
    (hP : ∀ M', RmQ M' x dl (cs ++ [c]) → FrQ M M' → P none M') : mRun (mSx g) (f_X8_plays g) P (0, [some (.inr (some 50)), some (.inl (nI c)), none], [], M) := by
  have hQ' := hQ
  obtain ⟨⟨r1, r2, r3, r4, r5, r6, r7, r8, r9⟩, ⟨e6, e9, e14, e15⟩, eL, hxu, hxr⟩ := hQ'
  have hlt := aOk.lt hok
  have hok2 := hok.add hn hc hb
  have hbc : bt (dl (aTn x cs cs.length)) c = true := (hok2.old).2.2.1
  obtain ⟨k1, k2, k3, k4, k5⟩ := hok
  have ht4 := aTn_lt (x := x) (cs := cs) (j := cs.length)
  have hlen : (cs ++ [c]).length = cs.length + 1 := by rw [List.length_append, List.length_singleton]
  have i8 : cs.length / 4 < 8 := by omega
  have ci : (nI (cs.length / 4)).toNatClampNeg = cs.length / 4 := nI_clamp (by omega)
  have ct : (nI (aTn x cs cs.length)).toNatClampNeg = aTn x cs cs.length := nI_clamp (by omega)
  have cL : (nI (cs.length % 4)).toNatClampNeg = cs.length % 4 := nI_clamp (by omega)
  have hL : M 61 (cs.length / 4) = nI (cs.length % 4) := by
    rw [r4 _ (by omega), show min 4 (cs.length - 4 * (cs.length / 4)) = cs.length % 4 by omega]
  refine v_pl_0 g M P _ ?_
  rw [e6, r1, ci, ct, hL, cL, fSh1_eq c hc]
  refine ⟨vp_in_nI ht4 (by decide), vp_in_nI ht4 (by decide), ?_⟩
  intro M1
  refine rr_at (i := cs.length / 4) o_cards (by decide) i8 ⟨vp_in_nI i8 (by decide), ri_at o_cards i8 (show cs.length % 4 < 4 by omega) (by decide) ?_⟩
  intro M8
  have f8 : ∀ d, d ≠ 58 → d ≠ 65 + cs.length / 4 → M8 d = M d := fun d h1 h2 => by
    show mW1 (mW1 M 58 _ _) (65 + cs.length / 4) _ _ d = M d
    rw [mW1_c h2, mW1_c h1]
  have g50 : M8 50 = M 50 := f8 50 (by decide) (by omega)
  have g61 : M8 61 = M 61 := f8 61 (by decide) (by omega)
  have q58 : ∀ q, q < 4 → M8 58 q = aHd dl (cs ++ [c]) q := fun q hq => by
    show mW1 (mW1 M 58 _ _) (65 + cs.length / 4) _ _ 58 q = _
    rw [mW1_c (by omega)]
    by_cases e : q = aTn x cs cs.length
    · rw [e, mW1_s, aMk_in hlt hc]
      exact congrArg (fun z => z &&& (fBit (nI c) ^^^ (-1))) (r2 _ ht4)
    · rw [mW1_k e, aHd_other hlt hc k4 ht4 hq hbc e]
      exact r2 q hq
  have qcd : ∀ i j, j < 4 → 4 * i + j < cs.length + 1 → M8 (65 + i) j = nI (aC (cs ++ [c]) (4 * i + j)) := fun i j hj h => by
    show mW1 (mW1 M 58 _ _) (65 + cs.length / 4) _ _ (65 + i) j = _
    by_cases e : 4 * i + j = cs.length
    · have hi : i = cs.length / 4 := by omega
      have hj2 : j = cs.length % 4 := by omega
      rw [e, hi, hj2, mW1_s, aC_new]
    · rw [aC_old (by omega)]
      by_cases ei : i = cs.length / 4
      · rw [ei, mW1_k (by omega), mW1_c (by omega)]
        rw [← ei]
        exact r5 i j hj (by omega)
      · rw [mW1_c (by omega), mW1_c (by omega)]
        exact r5 i j hj (by omega)
  clear_value M8
  rw [g50, g61, r1, ci, hL]
  refine ⟨vp_in_nI i8 (by decide), vp_in_nI i8 (by decide), ?_⟩
  intro M9
  have f9 : ∀ d, d ≠ 61 → M9 d = M8 d := fun d h => mW1_c h
  have h9 : M9 61 (cs.length / 4) = nI (cs.length % 4 + 1) := by
    show mW1 M8 61 _ _ 61 _ = _
    rw [mW1_s, nI_add]
  have h9' : ∀ i, i < 8 → M9 61 i = nI (min 4 ((cs ++ [c]).length - 4 * i)) := fun i hi => by
    rw [hlen]
    by_cases e : i = cs.length / 4
    · rw [e, h9, show min 4 (cs.length + 1 - 4 * (cs.length / 4)) = cs.length % 4 + 1 by omega]
    · show mW1 M8 61 _ _ 61 i = _
      rw [mW1_k e, g61, r4 i hi, show min 4 (cs.length - 4 * i) = min 4 (cs.length + 1 - 4 * i) by omega]
  clear_value M9
  have fin : ∀ M', M' 50 19 = nI ((cs.length + 1) / 4) → M' 50 6 = nI (aTn x (cs ++ [c]) (cs.length + 1)) → (∀ k, k ≠ 6 → k ≠ 19 → M' 50 k = M 50 k) →
      (∀ d, d ≠ 50 → d ≠ 60 → d ≠ 62 → d ≠ 63 → M' d = M9 d) → (∀ i, 4 * i < cs.length + 1 → M' 60 i = M 60 i) → (cs.length + 1 < 32 → M' 60 ((cs.length + 1) / 4) = nI (aLd x (cs ++ [c]) ((cs.length + 1) / 4))) →
      (∀ i, i < 8 → M' 62 i = if i < (cs.length + 1) / 4 then nI (aLd x (cs ++ [c]) (i + 1)) else -1) → (∀ s, s < 2 → M' 63 s = nI (aWn x (cs ++ [c]) s ((cs.length + 1) / 4)) + 0) → P none M' := by
    intro M' h19 h6 hk hd h60 h60' h62 h63
    have hd8 : ∀ d, d ≠ 50 → d ≠ 60 → d ≠ 61 → d ≠ 62 → d ≠ 63 → M' d = M8 d := fun d a1 a2 a3 a4 a5 => (hd d a1 a2 a4 a5).trans (f9 d a3)
    refine hP M' ⟨⟨by rw [hlen]; exact h19, fun q hq => ?_, fun q hq => ?_, fun i hi => ?_, fun i j hj h => ?_, fun i h => ?_, by rw [hlen]; exact h62, by rw [hlen]; exact h63 0 (by decide), by rw [hlen]; exact h63 1 (by decide)⟩, ⟨by rw [hlen]; exact h6, (hk 9 (by decide) (by decide)).trans e9, (hk 14 (by decide) (by decide)).trans e14, (hk 15 (by decide) (by decide)).trans e15⟩, by rw [hlen]; exact h60', hxu, hxr⟩ ⟨fun d h => ?_, hk⟩
    · rw [hd8 58 (by decide) (by decide) (by decide) (by decide) (by decide)]
      exact q58 q hq
    · rw [hd8 59 (by decide) (by decide) (by decide) (by decide) (by decide), f8 59 (by decide) (by omega)]
      exact r3 q hq
    · rw [hd 61 (by decide) (by decide) (by decide) (by decide)]
      exact h9' i hi
    · rw [hlen] at h
      rw [hd8 (65 + i) (by omega) (by omega) (by omega) (by omega) (by omega)]
      exact qcd i j hj h
    · rw [hlen] at h
      rw [h60 i h, aLd_old (by omega)]
      by_cases e : 4 * i < cs.length
      · exact r6 i e
      · have e2 : i = cs.length / 4 := by omega
        rw [e2]
        exact eL hn
    · rw [hd8 d (by omega) (by omega) (by omega) (by omega) (by omega), f8 d (by omega) (by omega)]
  have m60 : M9 60 = M 60 := (f9 60 (by decide)).trans (f8 60 (by decide) (by omega))
  have m62 : M9 62 = M 62 := (f9 62 (by decide)).trans (f8 62 (by decide) (by omega))
  have m63 : M9 63 = M 63 := (f9 63 (by decide)).trans (f8 63 (by decide) (by omega))
  have m50 : M9 50 = M 50 := (f9 50 (by decide)).trans g50
  refine v_pl_51 g M9 P _ ?_
  rw [m50, r1, ci, h9, e6]
  refine ⟨vp_in_nI i8 (by decide), fun hz => ?_, fun hz => ?_⟩
  · have hz' : 4 ≤ cs.length % 4 + 1 := (nI_leI (by decide) (by omega)).mp hz
    have hq1 : (cs.length + 1) / 4 = cs.length / 4 + 1 := by omega
    refine v_pl_77 g M9 P _ ?_
    rw [m50, r1, e9, e14]
    refine ⟨(cs.length / 4, x.1, x.2.1, cs ++ [c], aLd x cs (cs.length / 4)), ⟨rfl, i8, k1, aLd_lt k2 _, fun j hj => ?_, ?_⟩, fun r M12 hr => ?_⟩
    · refine ⟨?_, aOk.lt hok2 _ (aC_in (by show 4 * (cs.length / 4) + j < (cs ++ [c]).length; omega))⟩
      show M9 (65 + cs.length / 4) j = nI (aC (cs ++ [c]) (4 * (cs.length / 4) + j))
      rw [f9 _ (by omega)]
      exact qcd _ j hj (by omega)
    · show M9 60 (cs.length / 4) = _
      rw [m60]
      exact eL hn
    · obtain ⟨hr, h12⟩ := hr
      rw [h12]
      have hr1 : r = nI (aLd x (cs ++ [c]) (cs.length / 4 + 1)) := by
        rw [hr, aLd, aLd_old (by omega)]
      have hw4 : aLd x (cs ++ [c]) (cs.length / 4 + 1) < 4 := aLd_lt k2 _
      have hsd : fSide r = nI (aLd x (cs ++ [c]) (cs.length / 4 + 1) % 2) := by rw [hr1, fSide_nI (by omega)]
      have cw : (nI (aLd x (cs ++ [c]) (cs.length / 4 + 1) % 2)).toNatClampNeg = aLd x (cs ++ [c]) (cs.length / 4 + 1) % 2 := nI_clamp (by omega)
      have ht : nI (aTn x (cs ++ [c]) (cs.length + 1)) = r := by
        rw [aTn_0 (by omega) k2, hq1, hr1]
      rw [m50, r1, ci, hsd, cw, nI_add]
      refine ⟨vp_in_nI i8 (by decide), ?_⟩
      intro M14
      refine ⟨vp_in_nI (by omega) (by decide), vp_in_nI (by omega) (by decide), ?_⟩
      intro M15 M16 M17
      have add1 : ∀ (k : Nat) (z : Int32), nI k + z + nI 1 = nI (k + 1) + z := fun k z => by
        rw [← nI_add, Int32.add_assoc, Int32.add_comm z, ← Int32.add_assoc]
      have w15 : ∀ s, s < 2 → M15 63 s = nI (aWn x (cs ++ [c]) s ((cs.length + 1) / 4)) + 0 := fun s hs => by
        have hw : M9 63 s = nI (aWn x cs s (cs.length / 4)) + 0 := by
          rw [m63]
          rcases (by omega : s = 0 ∨ s = 1) with rfl | rfl
          · exact r8
          · exact r9
        show mW1 (mW1 M9 62 _ _) 63 _ _ 63 s = _
        rw [hq1, aWn, aWn_old (by omega)]
        by_cases e : s = aLd x (cs ++ [c]) (cs.length / 4 + 1) % 2
        · rw [if_pos e.symm, ← e, mW1_s, hw, add1]
        · rw [if_neg (fun z => e z.symm), mW1_k e, mW1_c (by decide), hw]
          rfl
      have w62 : ∀ i, i < 8 → M15 62 i = if i < (cs.length + 1) / 4 then nI (aLd x (cs ++ [c]) (i + 1)) else -1 := fun i hi => by
        show mW1 (mW1 M9 62 _ _) 63 _ _ 62 i = _
        rw [mW1_c (by decide), hq1]
        by_cases e : i = cs.length / 4
        · rw [e, mW1_s, if_pos (by omega), hr1]
        · rw [mW1_k e, m62, r7 i hi]
          by_cases e2 : i < cs.length / 4
          · rw [if_pos e2, if_pos (by omega), aLd_old (by omega)]
          · rw [if_neg e2, if_neg (by omega)]
      have w15d : ∀ d, d ≠ 62 → d ≠ 63 → M15 d = M9 d := fun d h1 h2 => by
        show mW1 (mW1 M9 62 _ _) 63 _ _ d = _
        rw [mW1_c h2, mW1_c h1]
      clear_value M15
      refine ⟨fun hl => ?_, fun hl => ?_⟩
      · have hl' : 8 ≤ cs.length / 4 + 1 := (nI_leI (by decide) (by omega)).mp hl
        have s17 : ∀ d, d ≠ 50 → M17 d = M15 d := fun d h => by
          show mW1 (mW1 M15 50 19 _) 50 6 _ d = _
          rw [mW1_c h, mW1_c h]
        refine fin M17 ?_ ?_ ?_ ?_ ?_ ?_ ?_ ?_
        · show mW1 (mW1 M15 50 19 _) 50 6 _ 50 19 = _
          rw [mW1_k (by decide), mW1_s, hq1]
        · show mW1 (mW1 M15 50 19 _) 50 6 _ 50 6 = _
          rw [mW1_s, ht]
        · intro k h1 h2
          show mW1 (mW1 M15 50 19 _) 50 6 _ 50 k = _
          rw [mW1_k h1, mW1_k h2, w15d 50 (by decide) (by decide), m50]
        · intro d h1 h2 h3 h4
          rw [s17 d h1, w15d d h3 h4]
        · intro i h
          rw [s17 60 (by decide), w15d 60 (by decide) (by decide), m60]
        · intro h
          omega
        · intro i hi
          rw [s17 62 (by decide)]
          exact w62 i hi
        · intro s hs
          rw [s17 63 (by decide)]
          exact w15 s hs
      · have hl' : cs.length / 4 + 1 < 8 := Nat.lt_of_not_le (fun z => hl ((nI_leI (a := 8) (b := cs.length / 4 + 1) (by decide) (by omega)).mpr z))
        intro M19
        have cq : (nI (cs.length / 4 + 1)).toNatClampNeg = cs.length / 4 + 1 := nI_clamp (by omega)
        rw [cq]
        refine ⟨vp_in_nI hl' (by decide), ?_⟩
        intro M20
        have s20 : ∀ d, d ≠ 50 → d ≠ 60 → M20 d = M15 d := fun d h h2 => by
          show mW1 (mW1 (mW1 (mW1 M15 50 19 _) 50 6 _) 50 6 _) 60 _ _ d = _
          rw [mW1_c h2, mW1_c h, mW1_c h, mW1_c h]
        refine fin M20 ?_ ?_ ?_ ?_ ?_ ?_ ?_ ?_
        · show mW1 (mW1 (mW1 (mW1 M15 50 19 _) 50 6 _) 50 6 _) 60 _ _ 50 19 = _
          rw [mW1_c (by decide), mW1_k (by decide), mW1_k (by decide), mW1_s, hq1]
        · show mW1 (mW1 (mW1 (mW1 M15 50 19 _) 50 6 _) 50 6 _) 60 _ _ 50 6 = _
          rw [mW1_c (by decide), mW1_s, ht]
        · intro k h1 h2
          show mW1 (mW1 (mW1 (mW1 M15 50 19 _) 50 6 _) 50 6 _) 60 _ _ 50 k = _
          rw [mW1_c (by decide), mW1_k h1, mW1_k h1, mW1_k h2, w15d 50 (by decide) (by decide), m50]
        · intro d h1 h2 h3 h4
          rw [s20 d h1 h2, w15d d h3 h4]
        · intro i h
          show mW1 (mW1 (mW1 (mW1 M15 50 19 _) 50 6 _) 50 6 _) 60 _ _ 60 i = _
          rw [mW1_k (by omega), mW1_c (by decide), mW1_c (by decide), mW1_c (by decide), w15d 60 (by decide) (by decide), m60]
        · intro h
          show mW1 (mW1 (mW1 (mW1 M15 50 19 _) 50 6 _) 50 6 _) 60 _ _ 60 _ = _
          rw [hq1, mW1_s, hr1]
        · intro i hi
          rw [s20 62 (by decide) (by decide)]
          exact w62 i hi
        · intro s hs
          rw [s20 63 (by decide) (by decide)]
          exact w15 s hs
  · have hz' : ¬ 4 ≤ cs.length % 4 + 1 := fun z => hz ((nI_leI (by decide) (by omega)).mpr z)
    have hq1 : (cs.length + 1) / 4 = cs.length / 4 := by omega
    rw [nI_add, nI_mod4 (by omega)]
    refine ⟨n4, ?_⟩
    intro M21
    have s21 : ∀ d, d ≠ 50 → M21 d = M9 d := fun d h => mW1_c h
    refine fin M21 ?_ ?_ ?_ ?_ ?_ ?_ ?_ ?_
    · show mW1 M9 50 6 _ 50 19 = _
      rw [mW1_k (by decide), m50, r1, hq1]
    · show mW1 M9 50 6 _ 50 6 = _
      rw [mW1_s, aTn_new (by omega), aTn_old (by omega)]
    · intro k h1 h2
      show mW1 M9 50 6 _ 50 k = _
      rw [mW1_k h1, m50]
    · intro d h1 h2 h3 h4
      exact s21 d h1
    · intro i h
      rw [s21 60 (by decide), m60]
    · intro h
      rw [s21 60 (by decide), m60, hq1, aLd_old (by omega)]
      exact eL hn
    · intro i hi
      rw [s21 62 (by decide), m62, hq1, r7 i hi]
      by_cases e : i < cs.length / 4
      · rw [if_pos e, if_pos e, aLd_old (by omega)]
      · rw [if_neg e, if_neg e]
    · intro s hs
      rw [s21 63 (by decide), m63, hq1, aWn_old (by omega)]
      rcases (by omega : s = 0 ∨ s = 1) with rfl | rfl
      · exact r8
      · exact r9
theorem run_X8_plays : mRunOf 3 t_X8_plays f_X8_plays := fun g as M P hT => by
  obtain ⟨⟨x, dl, cs, c⟩, ⟨rfl, h3, h4, h5, h6, h7⟩, hP⟩ := hT
  refine ⟨Nat.le_of_ble_eq_true rfl, ?_⟩
  dsimp only at h3 h4 h5 h6 h7
  exact pl_run g M P x dl cs c h3 h4 h5 h6 h7 (fun M' h8 h9 => hP M' ⟨h8, h9⟩)
theorem ok_X8_plays : mOK yX8_plays cX8_plays 3 (none) 3 t_X8_plays := mOK.of f_X8_plays (by decide) (fun _ => rfl) (fun g => mCodeOK kk_X8_plays) (fun g => mFldL fk_RX8 rfl) (fun g idx v h => by cases h) (fun g idx v h => by cases h) (mCalL (l := l_X8_plays) (List.forall_mem_cons.mpr ⟨mSite.S (idx := 143) ok_X8_bit (by decide) (by decide) wc_X8_bit wk_RX8_143 wt_X8_bit wn_RX8 wd_X8_bit, List.forall_mem_cons.mpr ⟨mSite.V (idx := 179) ok_X8_wonBy (by decide) (by decide) rv_X8_wonBy wc_X8_wonBy wk_RX8_179 wi_X8_wonBy wl_X8_wonBy wn_RX8 wd_X8_wonBy, List.forall_mem_cons.mpr ⟨mSite.S (idx := 151) ok_X8_side (by decide) (by decide) wc_X8_side wk_RX8_151 wt_X8_side wn_RX8 wd_X8_side, List.forall_mem_cons.mpr ⟨mSite.V (idx := 175) ok_X8_leads (by decide) (by decide) rv_X8_leads wc_X8_leads wk_RX8_175 wi_X8_leads wl_X8_leads wn_RX8 wd_X8_leads, fun _ h => absurd h List.not_mem_nil⟩⟩⟩⟩) (fun _ => rfl)) run_X8_plays

