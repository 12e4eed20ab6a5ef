/-! ===== THE REFERENCE: all lines are gone through ===== -/
theorem aHd_back {dl : Nat → Int32} {cs : List Nat} {c q : Nat} (hlt : ∀ d ∈ cs, d < 32) (hc : c < 32) (h : bt (aHd dl cs q) c = true) : aHd dl (cs ++ [c]) q ||| fBit (nI c) = aHd dl cs q := by
  rw [aMk_in hlt hc]
  refine bt_ext (fun i hi => ?_)
  rw [bt_or, bt_and, bt_not hi, bt_fBit c hc i hi]
  by_cases e : i = c
  · subst e
    rw [h]
    simp
  · simp [e]
theorem bts_y {x : Int32} {c : Nat} (h : bt x c = true) : bts (ub x) (c + 1) = bts (ub x) c ++ [c] := by
  have h' : (ub x).testBit c = true := h
  rw [bts, if_pos h']
theorem bts_n {x : Int32} {c : Nat} (h : ¬ bt x c = true) : bts (ub x) (c + 1) = bts (ub x) c := by
  have h' : (ub x).testBit c = false := Bool.eq_false_iff.mpr h
  rw [bts, h', if_neg (by decide), List.append_nil]
def aR (x : aX) (dl : Nat → Int32) (cs : List Nat) : Nat := aV x dl 0 (32 - cs.length) cs - aWn x cs 0 (cs.length / 4)
def aRc (x : aX) (dl : Nat → Int32) (cs : List Nat) (c : Nat) : Nat := aV x dl 0 (31 - cs.length) (cs ++ [c]) - aWn x cs 0 (cs.length / 4)
def pre_X8_solved (r : Nat) (q : aX × (Nat → Int32) × List Nat) (as : List mV) (M : mM) : Prop := as = [.inr (some 50)] ∧ RmQ M q.1 q.2.1 q.2.2 ∧ aOk q.1 q.2.1 q.2.2 ∧ 33 ≤ q.2.2.length + r
def post_X8_solved (_ : Nat) (q : aX × (Nat → Int32) × List Nat) (_ : List mV) (M : mM) (v : Int32) (M' : mM) : Prop := v = nI (aR q.1 q.2.1 q.2.2) ∧ RmQ M' q.1 q.2.1 q.2.2 ∧ FrQ M M'
abbrev t_X8_solved (r : Nat) : mG → mT := mRi (pre_X8_solved r) (post_X8_solved r)
theorem mo_X8_solved (r : Nat) : mMn (t_X8_solved r) := mRi_mono
theorem rv_X8_solved {r : Nat} : mHasR yX8_solved 0 (t_X8_solved r) := by
  intro g as M P hT hl
  obtain ⟨q, ⟨h2, -⟩, -⟩ := hT
  exact ⟨_, _, h2, is_X8 g _ rfl⟩
def pre_X8_tried (r : Nat) (q : aX × (Nat → Int32) × List Nat × Nat) (as : List mV) (M : mM) : Prop := as = [.inr (some 50), .inl (nI q.2.2.2)] ∧ RmQ M q.1 q.2.1 q.2.2.1 ∧ aOk q.1 q.2.1 q.2.2.1 ∧ q.2.2.1.length < 32 ∧ q.2.2.2 < 32 ∧ bt (aAl q.1 q.2.1 q.2.2.1) q.2.2.2 = true ∧ 32 ≤ q.2.2.1.length + r
def post_X8_tried (_ : Nat) (q : aX × (Nat → Int32) × List Nat × Nat) (_ : List mV) (M : mM) (v : Int32) (M' : mM) : Prop := v = nI (aRc q.1 q.2.1 q.2.2.1 q.2.2.2) ∧ RmQ M' q.1 q.2.1 q.2.2.1 ∧ FrQ M M'
abbrev t_X8_tried (r : Nat) : mG → mT := mRi (pre_X8_tried r) (post_X8_tried r)
theorem mo_X8_tried (r : Nat) : mMn (t_X8_tried r) := mRi_mono
theorem rv_X8_tried {r : Nat} : mHasR yX8_tried 1 (t_X8_tried r) := by
  intro g as M P hT hl
  obtain ⟨q, ⟨h2, -⟩, -⟩ := hT
  exact ⟨_, _, h2, is_X8 g _ rfl⟩
def k_X8_tried : List (Nat × mI) := [(0, .aload_n 0, 1, 0, 0, []),
  (1, .getfield 97, 3, 0, 0, []),
  (4, .istore_n 2, 1, 2, 0, []),
  (5, .aload_n 0, 1, 0, 0, []),
  (6, .getfield 103, 3, 0, 0, []),
  (9, .istore_n 3, 1, 3, 0, []),
  (10, .aload_n 0, 1, 0, 0, []),
  (11, .iload_n 1, 1, 1, 0, []),
  (12, .invokevirtual 191, 3, 0, 0, []),
  (15, .aload_n 0, 1, 0, 0, []),
  (16, .getfield 97, 3, 0, 0, []),
  (19, .iload_n 2, 1, 2, 0, []),
  (20, .if_icmp .le 19, 3, 39, 0, []),
  (23, .aload_n 0, 1, 0, 0, []),
  (24, .getfield 39, 3, 0, 0, []),
  (27, .iload_n 2, 1, 2, 0, []),
  (28, .iaload, 1, 0, 0, []),
  (29, .invokestatic 151, 3, 0, 0, []),
  (32, .ifCond .ne 7, 3, 39, 0, []),
  (35, .iconst 1, 1, 0, nI 1, []),
  (36, .goto 4, 3, 40, 0, []),
  (39, .iconst 0, 1, 0, nI 0, []),
  (40, .istore 4, 2, 4, 0, []),
  (42, .iload 4, 2, 4, 0, []),
  (44, .aload_n 0, 1, 0, 0, []),
  (45, .invokevirtual 198, 3, 0, 0, []),
  (48, .iadd, 1, 0, 0, []),
  (49, .istore 5, 2, 5, 0, []),
  (51, .aload_n 0, 1, 0, 0, []),
  (52, .getfield 97, 3, 0, 0, []),
  (55, .iload_n 2, 1, 2, 0, []),
  (56, .if_icmp .le 52, 3, 108, 0, []),
  (59, .aload_n 0, 1, 0, 0, []),
  (60, .getfield 42, 3, 0, 0, []),
  (63, .aload_n 0, 1, 0, 0, []),
  (64, .getfield 39, 3, 0, 0, []),
  (67, .iload_n 2, 1, 2, 0, []),
  (68, .iaload, 1, 0, 0, []),
  (69, .invokestatic 151, 3, 0, 0, []),
  (72, .dup2, 1, 0, 0, []),
  (73, .iaload, 1, 0, 0, []),
  (74, .iconst 1, 1, 0, nI 1, []),
  (75, .isub, 1, 0, 0, []),
  (76, .iastore, 1, 0, 0, []),
  (77, .aload_n 0, 1, 0, 0, []),
  (78, .getfield 39, 3, 0, 0, []),
  (81, .iload_n 2, 1, 2, 0, []),
  (82, .iconst (-1), 1, 0, -1, []),
  (83, .iastore, 1, 0, 0, []),
  (84, .aload_n 0, 1, 0, 0, []),
  (85, .getfield 97, 3, 0, 0, []),
  (88, .bipush 8, 2, 0, nI 8, []),
  (90, .if_icmp .ge 13, 3, 103, 0, []),
  (93, .aload_n 0, 1, 0, 0, []),
  (94, .getfield 33, 3, 0, 0, []),
  (97, .aload_n 0, 1, 0, 0, []),
  (98, .getfield 97, 3, 0, 0, []),
  (101, .iconst (-1), 1, 0, -1, []),
  (102, .iastore, 1, 0, 0, []),
  (103, .aload_n 0, 1, 0, 0, []),
  (104, .iload_n 2, 1, 2, 0, []),
  (105, .putfield 97, 3, 0, 0, []),
  (108, .aload_n 0, 1, 0, 0, []),
  (109, .getfield 36, 3, 0, 0, []),
  (112, .iload_n 2, 1, 2, 0, []),
  (113, .dup2, 1, 0, 0, []),
  (114, .iaload, 1, 0, 0, []),
  (115, .iconst 1, 1, 0, nI 1, []),
  (116, .isub, 1, 0, 0, []),
  (117, .iastore, 1, 0, 0, []),
  (118, .aload_n 0, 1, 0, 0, []),
  (119, .iload_n 3, 1, 3, 0, []),
  (120, .putfield 103, 3, 0, 0, []),
  (123, .aload_n 0, 1, 0, 0, []),
  (124, .getfield 27, 3, 0, 0, []),
  (127, .iload_n 3, 1, 3, 0, []),
  (128, .dup2, 1, 0, 0, []),
  (129, .iaload, 1, 0, 0, []),
  (130, .iload_n 1, 1, 1, 0, []),
  (131, .invokestatic 143, 3, 0, 0, []),
  (134, .ior, 1, 0, 0, []),
  (135, .iastore, 1, 0, 0, []),
  (136, .iload 5, 2, 5, 0, []),
  (138, .ireturn, 1, 0, 0, [])]
theorem kk_X8_tried : (k_X8_tried.all fun e => mChk cX8_tried e.1 e.2) = true := by decide +kernel
def l_X8_tried (r : Nat) : List (Nat × Nat × (mG → mT)) := [(3 * 191, 1 + 1, t_X8_plays), (3 * 151 + 1, 1, t_X8_side), (3 * 198, 0 + 1, (t_X8_solved r)), (3 * 143 + 1, 1, t_X8_bit)]
def f_X8_tried (r : Nat) (g : mG) : mF := (mLk k_X8_tried, mLk fl_RX8, mLk ((l_X8_tried r).map fun e => (e.1, e.2.1, e.2.2 g)), mLk ([] : List (Nat × mV)), mLk ([] : List (Nat × mV)), some .int)
theorem m_X8_tried (r : Nat) (g : mG) : mMono (f_X8_tried r g) := mMonoL (g := g) (l := l_X8_tried r) (List.forall_mem_cons.mpr ⟨mo_X8_plays, List.forall_mem_cons.mpr ⟨mo_X8_side, List.forall_mem_cons.mpr ⟨(mo_X8_solved r), List.forall_mem_cons.mpr ⟨mo_X8_bit, fun _ h => absurd h List.not_mem_nil⟩⟩⟩⟩) rfl

theorem v_tr_0 (r : Nat) (g : mG) (M : mM) (P : mP) (c : Int32)
    (h : ∃ x1 : aX × (Nat → Int32) × List Nat × Nat, pre_X8_plays x1 [.inr (some 50), .inl c] M ∧ ∀ M2 : mM, post_X8_plays x1 [.inr (some 50), .inl c] M M2 → (((M2 50 19) ≤ (M 50 19) → mRun (mSx g) (f_X8_tried r g) P (42, [some (.inr (some 50)), some (.inl c), some (.inl (M 50 19)), some (.inl (M 50 6)), some (.inl (nI 0)), none], [], M2)) ∧ (¬ ((M2 50 19) ≤ (M 50 19)) → vp_in (M 50 19) 8 ∧ ((¬ (fSide (M2 62 ((M 50 19).toNatClampNeg))) = 0 → mRun (mSx g) (f_X8_tried r g) P (42, [some (.inr (some 50)), some (.inl c), some (.inl (M 50 19)), some (.inl (M 50 6)), some (.inl (nI 0)), none], [], M2)) ∧ (¬ (¬ (fSide (M2 62 ((M 50 19).toNatClampNeg))) = 0) → mRun (mSx g) (f_X8_tried r g) P (42, [some (.inr (some 50)), some (.inl c), some (.inl (M 50 19)), some (.inl (M 50 6)), some (.inl (nI 1)), none], [], M2)))))) :
    mRun (mSx g) (f_X8_tried r g) P (0, [some (.inr (some 50)), some (.inl c), none, none, none, none], [], M) := mRun.vc (m_X8_tried r g) [42] 23 h

theorem v_tr_42 (r : Nat) (g : mG) (M : mM) (P : mP) (c i w b : Int32)
    (h : ∃ x1 : aX × (Nat → Int32) × List Nat, pre_X8_solved r x1 [.inr (some 50)] M ∧ ∀ (r3 : Int32) (M2 : mM), post_X8_solved r x1 [.inr (some 50)] M r3 M2 → (mRun (mSx g) (f_X8_tried r g) P (51, [some (.inr (some 50)), some (.inl c), some (.inl i), some (.inl w), some (.inl b), some (.inl (b + r3))], [], M2))) :
    mRun (mSx g) (f_X8_tried r g) P (42, [some (.inr (some 50)), some (.inl c), some (.inl i), some (.inl w), some (.inl b), none], [], M) := mRun.vc (m_X8_tried r g) [51] 6 h

theorem v_tr_51 (r : Nat) (g : mG) (M : mM) (P : mP) (c i w b s : Int32)
    (h : ((M 50 19) ≤ i → mRun (mSx g) (f_X8_tried r g) P (108, [some (.inr (some 50)), some (.inl c), some (.inl i), some (.inl w), some (.inl b), some (.inl s)], [], M)) ∧ (¬ ((M 50 19) ≤ i) → vp_in i 8 ∧ (vp_in (fSide (M 62 i.toNatClampNeg)) 2 ∧ (vp_in (fSide (M 62 i.toNatClampNeg)) 2 ∧ (let M2 : mM := mW1 M 63 ((fSide (M 62 i.toNatClampNeg)).toNatClampNeg) ((M 63 ((fSide (M 62 i.toNatClampNeg)).toNatClampNeg)) - (nI 1)); vp_in i 8 ∧ (let M3 : mM := mW1 M2 62 i.toNatClampNeg (-1); ((nI 8) ≤ (M 50 19) → let M5 : mM := mW1 M3 50 19 i; mRun (mSx g) (f_X8_tried r g) P (108, [some (.inr (some 50)), some (.inl c), some (.inl i), some (.inl w), some (.inl b), some (.inl s)], [], M5)) ∧ (¬ ((nI 8) ≤ (M 50 19)) → vp_in (M 50 19) 8 ∧ (let M6 : mM := mW1 M3 60 ((M 50 19).toNatClampNeg) (-1); let M7 : mM := mW1 M6 50 19 i; mRun (mSx g) (f_X8_tried r g) P (108, [some (.inr (some 50)), some (.inl c), some (.inl i), some (.inl w), some (.inl b), some (.inl s)], [], M7))))))))) :
    mRun (mSx g) (f_X8_tried r g) P (51, [some (.inr (some 50)), some (.inl c), some (.inl i), some (.inl w), some (.inl b), some (.inl s)], [], M) := mRun.vc (m_X8_tried r g) [108] 35 h

theorem v_tr_108 (r : Nat) (g : mG) (M : mM) (P : mP) (c i w b s : Int32)
    (h : vp_in i 8 ∧ (vp_in i 8 ∧ (let M1 : mM := mW1 M 61 i.toNatClampNeg ((M 61 i.toNatClampNeg) - (nI 1)); let M2 : mM := mW1 M1 50 6 w; vp_in w 4 ∧ (vp_in w 4 ∧ (let M3 : mM := mW1 M2 58 w.toNatClampNeg ((M 58 w.toNatClampNeg) ||| (fSh1 c)); P (some (.inl s)) M3))))) :
    mRun (mSx g) (f_X8_tried r g) P (108, [some (.inr (some 50)), some (.inl c), some (.inl i), some (.inl w), some (.inl b), some (.inl s)], [], M) := mRun.vc (m_X8_tried r g) [] 22 h

theorem tr_back (r : Nat) (g : mG) (M M5 : mM) (P : mP) (x : aX) (dl : Nat → Int32) (cs : List Nat) (c : Nat) (b s : Int32) (hQ : RmQ M x dl cs) (hok : aOk x dl cs) (hn : cs.length < 32) (hc : c < 32) (hb : bt (aHd dl cs (aTn x cs cs.length)) c = true)
    (hQ5 : RmQ M5 x dl (cs ++ [c])) (hF5 : FrQ M M5) (hP : ∀ M', RmQ M' x dl cs → FrQ M M' → P (some (.inl s)) M') : mRun (mSx g) (f_X8_tried r g) P (51, [some (.inr (some 50)), some (.inl (nI c)), some (.inl (nI (cs.length / 4))), some (.inl (nI (aTn x cs cs.length))), some (.inl b), some (.inl s)], [], M5) := by
  have hlt := aOk.lt hok
  have hok2 := hok.add hn hc hb
  have hbc : bt (dl (aTn x cs cs.length)) c = true := (hok2.old).2.2.1
  have ht4 := aTn_lt (x := x) (cs := cs) (j := cs.length)
  have hlen : (cs ++ [c]).length = cs.length + 1 := by rw [List.length_append, List.length_singleton]
  obtain ⟨⟨r1, r2, r3, r4, r5, r6, r7, r8, r9⟩, ⟨e6, e9, e14, e15⟩, eL, hxu, hxr⟩ := hQ5
  rw [hlen] at r1 r4 r5 r6 r7 r8 r9 e6 eL
  have i8 : cs.length / 4 < 8 := by omega
  have ci : (nI (cs.length / 4)).toNatClampNeg = cs.length / 4 := nI_clamp (by omega)
  have ct : (nI (aTn x cs cs.length)).toNatClampNeg = aTn x cs cs.length := nI_clamp (by omega)
  have k108 : ∀ M6 : mM, M6 50 19 = nI (cs.length / 4) → (∀ k, k ≠ 6 → k ≠ 19 → M6 50 k = M5 50 k) → (∀ d, d ≠ 50 → d ≠ 60 → d ≠ 62 → d ≠ 63 → M6 d = M5 d) → (∀ i, 4 * i < cs.length + 1 → M6 60 i = M5 60 i) → (∀ i, i < 8 → M6 62 i = if i < cs.length / 4 then nI (aLd x cs (i + 1)) else -1) → (∀ s, s < 2 → M6 63 s = nI (aWn x cs s (cs.length / 4)) + 0) →
      mRun (mSx g) (f_X8_tried r g) P (108, [some (.inr (some 50)), some (.inl (nI c)), some (.inl (nI (cs.length / 4))), some (.inl (nI (aTn x cs cs.length))), some (.inl b), some (.inl s)], [], M6) := by
    intro M6 h19 hk hd h60 h62 h63
    refine v_tr_108 r g M6 P _ _ _ _ _ ⟨vp_in_nI i8 (by decide), vp_in_nI i8 (by decide), ?_⟩
    rw [ci, ct, fSh1_eq c hc, hd 61 (by decide) (by decide) (by decide) (by decide), r4 _ i8, show min 4 (cs.length + 1 - 4 * (cs.length / 4)) = cs.length % 4 + 1 by omega, pk_sub (by omega), show cs.length % 4 + 1 - 1 = cs.length % 4 by omega, hd 58 (by decide) (by decide) (by decide) (by decide), r2 _ ht4, aHd_back hlt hc hb]
    intro M8 M9
    refine ⟨vp_in_nI ht4 (by decide), vp_in_nI ht4 (by decide), ?_⟩
    intro M10
    have f10 : ∀ d, d ≠ 50 → d ≠ 58 → d ≠ 61 → M10 d = M6 d := fun d h1 h2 h3 => by
      show mW1 (mW1 (mW1 M6 61 _ _) 50 6 _) 58 _ _ d = _
      rw [mW1_c h2, mW1_c h1, mW1_c h3]
    have g10 : ∀ k, k ≠ 6 → M10 50 k = M6 50 k := fun k h => by
      show mW1 (mW1 (mW1 M6 61 _ _) 50 6 _) 58 _ _ 50 k = _
      rw [mW1_c (by decide), mW1_k h, mW1_c (by decide)]
    have t10 : M10 50 6 = nI (aTn x cs cs.length) := by
      show mW1 (mW1 (mW1 M6 61 _ _) 50 6 _) 58 _ _ 50 6 = _
      rw [mW1_c (by decide), mW1_s]
    have q58 : ∀ q, q < 4 → M10 58 q = aHd dl cs q := fun q hq => by
      show mW1 (mW1 (mW1 M6 61 _ _) 50 6 _) 58 _ _ 58 q = _
      by_cases e : q = aTn x cs cs.length
      · rw [e, mW1_s]
      · rw [mW1_k e, mW1_c (by decide), mW1_c (by decide), hd 58 (by decide) (by decide) (by decide) (by decide), r2 q hq]
        exact aHd_other hlt hc hok.2.2.2.1 ht4 hq hbc e
    have q61 : ∀ i, i < 8 → M10 61 i = nI (min 4 (cs.length - 4 * i)) := fun i hi => by
      show mW1 (mW1 (mW1 M6 61 _ _) 50 6 _) 58 _ _ 61 i = _
      rw [mW1_c (by decide), mW1_c (by decide)]
      by_cases e : i = cs.length / 4
      · rw [e, mW1_s, show min 4 (cs.length - 4 * (cs.length / 4)) = cs.length % 4 by omega]
      · rw [mW1_k e, hd 61 (by decide) (by decide) (by decide) (by decide), r4 i hi, show min 4 (cs.length + 1 - 4 * i) = min 4 (cs.length - 4 * i) by omega]
    clear_value M10
    have m50 : ∀ k, k ≠ 6 → k ≠ 19 → M10 50 k = M5 50 k := fun k h1 h2 => (g10 k h1).trans (hk k h1 h2)
    have m : ∀ d, d ≠ 50 → d ≠ 58 → d ≠ 60 → d ≠ 61 → d ≠ 62 → d ≠ 63 → M10 d = M5 d := fun d h1 h2 h3 h4 h5 h6 => (f10 d h1 h2 h4).trans (hd d h1 h3 h5 h6)
    have m60 : ∀ i, 4 * i < cs.length + 1 → M10 60 i = nI (aLd x cs i) := fun i h => by
      rw [f10 60 (by decide) (by decide) (by decide), h60 i h, r6 i h, aLd_old (by omega)]
    refine hP M10 ⟨⟨(g10 19 (by decide)).trans h19, q58, fun q hq => ?_, q61, fun i j hj h => ?_, fun i h => m60 i (by omega), fun i hi => ?_, ?_, ?_⟩, ⟨t10, (m50 9 (by decide) (by decide)).trans e9, (m50 14 (by decide) (by decide)).trans e14, (m50 15 (by decide) (by decide)).trans e15⟩, fun _ => m60 _ (by omega), hxu, hxr⟩ (hF5.trans ⟨fun d h => m d (by omega) (by omega) (by omega) (by omega) (by omega) (by omega), m50⟩)
    · rw [m 59 (by decide) (by decide) (by decide) (by decide) (by decide) (by decide)]
      exact r3 q hq
    · rw [m (65 + i) (by omega) (by omega) (by omega) (by omega) (by omega) (by omega), r5 i j hj (by omega), aC_old h]
    · rw [f10 62 (by decide) (by decide) (by decide)]
      exact h62 i hi
    · rw [f10 63 (by decide) (by decide) (by decide)]
      exact h63 0 (by decide)
    · rw [f10 63 (by decide) (by decide) (by decide)]
      exact h63 1 (by decide)
  refine v_tr_51 r g M5 P _ _ _ _ _ ?_
  rw [r1, ci]
  refine ⟨fun hz => ?_, fun hz => ?_⟩
  · have hz' := (nI_leI (by omega) (by omega)).mp hz
    have hq1 : (cs.length + 1) / 4 = cs.length / 4 := by omega
    rw [hq1] at r1 r7 r8 r9
    refine k108 M5 r1 (fun _ _ _ => rfl) (fun _ _ _ _ _ => rfl) (fun _ _ => rfl) (fun i hi => ?_) (fun s hs => ?_)
    · rw [r7 i hi]
      by_cases e : i < cs.length / 4
      · rw [if_pos e, if_pos e, aLd_old (by omega)]
      · rw [if_neg e, if_neg e]
    · rcases (by omega : s = 0 ∨ s = 1) with rfl | rfl
      · rw [r8, aWn_old (by omega)]
      · rw [r9, aWn_old (by omega)]
  · have hz' : ¬ (cs.length + 1) / 4 ≤ cs.length / 4 := fun z => hz ((nI_leI (by omega) (by omega)).mpr z)
    have hq1 : (cs.length + 1) / 4 = cs.length / 4 + 1 := by omega
    rw [hq1] at r1 r7 r8 r9 ⊢
    have hw4 : aLd x (cs ++ [c]) (cs.length / 4 + 1) < 4 := aLd_lt hok.2.1 _
    have h62 : M5 62 (cs.length / 4) = nI (aLd x (cs ++ [c]) (cs.length / 4 + 1)) := by rw [r7 _ i8, if_pos (by omega)]
    have cw : (nI (aLd x (cs ++ [c]) (cs.length / 4 + 1) % 2)).toNatClampNeg = aLd x (cs ++ [c]) (cs.length / 4 + 1) % 2 := nI_clamp (by omega)
    rw [h62, fSide_nI (by omega), cw]
    refine ⟨vp_in_nI i8 (by decide), vp_in_nI (by omega) (by decide), vp_in_nI (by omega) (by decide), ?_⟩
    intro M11
    have w63 : ∀ s, s < 2 → M11 63 s = nI (aWn x cs s (cs.length / 4)) + 0 := fun s hs => by
      have hw : M5 63 s = nI (aWn x (cs ++ [c]) s (cs.length / 4 + 1)) + 0 := by
        rcases (by omega : s = 0 ∨ s = 1) with rfl | rfl
        · exact r8
        · exact r9
      rw [aWn, aWn_old (by omega)] at hw
      show mW1 M5 63 _ _ 63 s = _
      by_cases e : s = aLd x (cs ++ [c]) (cs.length / 4 + 1) % 2
      · rw [← e, mW1_s, hw, if_pos e.symm, Int32.add_zero, Int32.add_zero, pk_sub (by omega), Nat.add_sub_cancel]
      · rw [mW1_k e, hw, if_neg (fun z => e z.symm), Nat.add_zero]
    have f11 : ∀ d, d ≠ 63 → M11 d = M5 d := fun d h => mW1_c h
    clear_value M11
    refine ⟨vp_in_nI i8 (by decide), ?_⟩
    intro M12
    have f12 : ∀ d, d ≠ 62 → d ≠ 63 → M12 d = M5 d := fun d h1 h2 => (mW1_c h1 : M12 d = M11 d).trans (f11 d h2)
    have w62 : ∀ i, i < 8 → M12 62 i = if i < cs.length / 4 then nI (aLd x cs (i + 1)) else -1 := fun i hi => by
      show mW1 M11 62 _ _ 62 i = _
      by_cases e : i = cs.length / 4
      · rw [e, mW1_s, if_neg (by omega)]
      · rw [mW1_k e, f11 62 (by decide), r7 i hi]
        by_cases e2 : i < cs.length / 4
        · rw [if_pos e2, if_pos (by omega), aLd_old (by omega)]
        · rw [if_neg e2, if_neg (by omega)]
    have w63' : M12 63 = M11 63 := mW1_c (by decide)
    clear_value M12
    refine ⟨fun hl => ?_, fun hl => ?_⟩
    · intro M14
      refine k108 M14 mW1_s (fun k h1 h2 => ?_) (fun d h1 h2 h3 h4 => ?_) (fun i h => ?_) (fun i hi => ?_) (fun s hs => ?_)
      · exact (mW1_k h2 : M14 50 k = M12 50 k).trans (congrFun (f12 50 (by decide) (by decide)) k)
      · exact (mW1_c h1 : M14 d = M12 d).trans (f12 d h3 h4)
      · exact congrFun ((mW1_c (by decide) : M14 60 = M12 60).trans (f12 60 (by decide) (by decide))) i
      · exact (congrFun (mW1_c (by decide) : M14 62 = M12 62) i).trans (w62 i hi)
      · exact (congrFun (mW1_c (by decide) : M14 63 = M12 63) s).trans ((congrFun w63' s).trans (w63 s hs))
    · have hl' : cs.length / 4 + 1 < 8 := Nat.lt_of_not_le (fun z => hl ((nI_leI (a := 8) (b := cs.length / 4 + 1) (by decide) (by omega)).mpr z))
      have cq : (nI (cs.length / 4 + 1)).toNatClampNeg = cs.length / 4 + 1 := nI_clamp (by omega)
      rw [cq]
      refine ⟨vp_in_nI hl' (by decide), ?_⟩
      intro M18 M19
      have f19 : ∀ d, d ≠ 50 → d ≠ 60 → M19 d = M12 d := fun d h1 h2 => (mW1_c h1 : M19 d = M18 d).trans (mW1_c h2 : M18 d = M12 d)
      refine k108 M19 mW1_s (fun k h1 h2 => ?_) (fun d h1 h2 h3 h4 => ?_) (fun i h => ?_) (fun i hi => ?_) (fun s hs => ?_)
      · exact (mW1_k h2 : M19 50 k = M18 50 k).trans ((congrFun (mW1_c (by decide) : M18 50 = M12 50) k).trans (congrFun (f12 50 (by decide) (by decide)) k))
      · exact (f19 d h1 h2).trans (f12 d h3 h4)
      · exact (congrFun (mW1_c (by decide) : M19 60 = M18 60) i).trans ((mW1_k (by omega) : M18 60 i = M12 60 i).trans (congrFun (f12 60 (by decide) (by decide)) i))
      · exact (congrFun (f19 62 (by decide) (by decide)) i).trans (w62 i hi)
      · exact (congrFun (f19 63 (by decide) (by decide)) s).trans ((congrFun w63' s).trans (w63 s hs))
theorem tr_run (r : Nat) (g : mG) (M : mM) (P : mP) (x : aX) (dl : Nat → Int32) (cs : List Nat) (c : Nat) (hQ : RmQ M x dl cs) (hok : aOk x dl cs) (hn : cs.length < 32) (hc : c < 32) (hal : bt (aAl x dl cs) c = true) (hr : 32 ≤ cs.length + r)
    (hP : ∀ M', RmQ M' x dl cs → FrQ M M' → P (some (.inl (nI (aRc x dl cs c)))) M') : mRun (mSx g) (f_X8_tried r g) P (0, [some (.inr (some 50)), some (.inl (nI c)), none, none, none, none], [], M) := by
  have hb := aAl_sub hal
  have hok2 := hok.add hn hc hb
  have hlen : (cs ++ [c]).length = cs.length + 1 := by rw [List.length_append, List.length_singleton]
  have i8 : cs.length / 4 < 8 := by omega
  have ci : (nI (cs.length / 4)).toNatClampNeg = cs.length / 4 := nI_clamp (by omega)
  have r1 : M 50 19 = nI (cs.length / 4) := hQ.1.1
  have e6 : M 50 6 = nI (aTn x cs cs.length) := hQ.2.1.1
  refine v_tr_0 r g M P _ ⟨(x, dl, cs, c), ⟨rfl, hQ, hok, hn, hc, hb⟩, fun M2 h2 => ?_⟩
  obtain ⟨hQ2, hF2⟩ := h2
  dsimp only at hQ2
  have s1 : M2 50 19 = nI ((cs.length + 1) / 4) := by rw [← hlen]; exact hQ2.1.1
  have s7 : ∀ i, i < 8 → M2 62 i = if i < (cs.length + 1) / 4 then nI (aLd x (cs ++ [c]) (i + 1)) else -1 := by rw [← hlen]; exact hQ2.1.2.2.2.2.2.2.1
  rw [r1, ci, e6, s1]
  have k42 : ∀ br : Nat, aWn x (cs ++ [c]) 0 ((cs.length + 1) / 4) = aWn x cs 0 (cs.length / 4) + br → mRun (mSx g) (f_X8_tried r g) P (42, [some (.inr (some 50)), some (.inl (nI c)), some (.inl (nI (cs.length / 4))), some (.inl (nI (aTn x cs cs.length))), some (.inl (nI br)), none], [], M2) := fun br hbr => by
    refine v_tr_42 r g M2 P _ _ _ _ ⟨(x, dl, cs ++ [c]), ⟨rfl, hQ2, hok2, by show 33 ≤ (cs ++ [c]).length + r; omega⟩, fun r5 M5 h5 => ?_⟩
    obtain ⟨hv, hQ5, hF5⟩ := h5
    dsimp only at hv hQ5
    have hbd := (aV_bd (x := x) (dl := dl) (s := 0) (31 - cs.length) (cs ++ [c]) (by omega) hok2).1
    rw [hlen, hbr] at hbd
    have hs : nI br + r5 = nI (aRc x dl cs c) := by
      rw [hv, nI_add]
      unfold aR aRc
      rw [hlen, hbr, show 32 - (cs.length + 1) = 31 - cs.length by omega]
      exact congrArg nI (by omega)
    rw [hs]
    exact tr_back r g M M5 P x dl cs c _ _ hQ hok hn hc hb hQ5 (hF2.trans hF5) hP
  refine ⟨fun hz => ?_, fun hz => ?_⟩
  · have hz' := (nI_leI (by omega) (by omega)).mp hz
    have hq1 : (cs.length + 1) / 4 = cs.length / 4 := by omega
    exact k42 0 (by rw [hq1, aWn_old (by omega), Nat.add_zero])
  · have hz' : ¬ (cs.length + 1) / 4 ≤ cs.length / 4 := fun z => hz ((nI_leI (by omega) (by omega)).mpr z)
    have hq1 : (cs.length + 1) / 4 = cs.length / 4 + 1 := by omega
    have hw4 : aLd x (cs ++ [c]) (cs.length / 4 + 1) < 4 := aLd_lt hok.2.1 _
    rw [s7 _ i8, if_pos (by omega), fSide_nI (by omega)]
    refine ⟨vp_in_nI i8 (by decide), fun hw => ?_, fun hw => ?_⟩
    · refine k42 0 ?_
      rw [hq1, aWn, aWn_old (by omega), if_neg (fun z => hw (by rw [z]; rfl))]
    · refine k42 1 ?_
      have := (nI_eq (b := 0) (by omega) (by decide)).mp (Classical.not_not.mp hw)
      rw [hq1, aWn, aWn_old (by omega), if_pos this]
theorem run_X8_tried (r : Nat) : mRunOf 6 (t_X8_tried r) (f_X8_tried r) := fun g as M P hT => by
  obtain ⟨⟨x, dl, cs, c⟩, ⟨rfl, h3, h4, h5, h6, h7, h8⟩, hP⟩ := hT
  refine ⟨Nat.le_of_ble_eq_true rfl, ?_⟩
  dsimp only at h3 h4 h5 h6 h7 h8
  exact tr_run r g M P x dl cs c h3 h4 h5 h6 h7 h8 (fun M' k1 k2 => hP _ _ ⟨rfl, k1, k2⟩)
theorem ok_X8_tried (r : Nat) (h : mOK yX8_solved cX8_solved 6 (some .int) (6 + 2 * r) (t_X8_solved r)) : mOK yX8_tried cX8_tried 6 (some .int) (7 + 2 * r) (t_X8_tried r) := mOK.of (f_X8_tried r) (by decide) (fun _ => rfl) (fun g => mCodeOK kk_X8_tried) (fun g => mFldL fk_RX8 rfl) (fun g idx v h => by cases h) (fun g idx v h => by cases h) (mCalL (l := l_X8_tried r) (List.forall_mem_cons.mpr ⟨mSite.V (idx := 191) ok_X8_plays (by omega) (by decide) rv_X8_plays wc_X8_plays wk_RX8_191 wi_X8_plays wl_X8_plays wn_RX8 wd_X8_plays, List.forall_mem_cons.mpr ⟨mSite.S (idx := 151) ok_X8_side (by omega) (by decide) wc_X8_side wk_RX8_151 wt_X8_side wn_RX8 wd_X8_side, List.forall_mem_cons.mpr ⟨mSite.V (idx := 198) h (by omega) (by decide) rv_X8_solved wc_X8_solved wk_RX8_198 wi_X8_solved wl_X8_solved wn_RX8 wd_X8_solved, List.forall_mem_cons.mpr ⟨mSite.S (idx := 143) ok_X8_bit (by omega) (by decide) wc_X8_bit wk_RX8_143 wt_X8_bit wn_RX8 wd_X8_bit, fun _ h => absurd h List.not_mem_nil⟩⟩⟩⟩) (fun _ => rfl)) (run_X8_tried r)
def k_X8_solved : List (Nat × mI) := [(0, .aload_n 0, 1, 0, 0, []),
  (1, .getfield 97, 3, 0, 0, []),
  (4, .bipush 8, 2, 0, nI 8, []),
  (6, .if_icmp .ne 5, 3, 11, 0, []),
  (9, .iconst 0, 1, 0, nI 0, []),
  (10, .ireturn, 1, 0, 0, []),
  (11, .aload_n 0, 1, 0, 0, []),
  (12, .invokevirtual 201, 3, 0, 0, []),
  (15, .istore_n 1, 1, 1, 0, []),
  (16, .iconst (-1), 1, 0, -1, []),
  (17, .istore_n 2, 1, 2, 0, []),
  (18, .aload_n 0, 1, 0, 0, []),
  (19, .getfield 103, 3, 0, 0, []),
  (22, .invokestatic 151, 3, 0, 0, []),
  (25, .ifCond .ne 7, 3, 32, 0, []),
  (28, .iconst 1, 1, 0, nI 1, []),
  (29, .goto 4, 3, 33, 0, []),
  (32, .iconst 0, 1, 0, nI 0, []),
  (33, .istore_n 3, 1, 3, 0, []),
  (34, .iconst 0, 1, 0, nI 0, []),
  (35, .istore 4, 2, 4, 0, []),
  (37, .iload 4, 2, 4, 0, []),
  (39, .bipush 32, 2, 0, nI 32, []),
  (41, .if_icmp .ge 56, 3, 97, 0, []),
  (44, .iload_n 1, 1, 1, 0, []),
  (45, .iload 4, 2, 4, 0, []),
  (47, .invokestatic 139, 3, 0, 0, []),
  (50, .ifCond .ne 6, 3, 56, 0, []),
  (53, .goto 38, 3, 91, 0, []),
  (56, .aload_n 0, 1, 0, 0, []),
  (57, .iload 4, 2, 4, 0, []),
  (59, .invokevirtual 204, 3, 0, 0, []),
  (62, .istore 5, 2, 5, 0, []),
  (64, .iload_n 2, 1, 2, 0, []),
  (65, .iconst (-1), 1, 0, -1, []),
  (66, .if_icmp .eq 22, 3, 88, 0, []),
  (69, .iload_n 3, 1, 3, 0, []),
  (70, .ifCond .eq 12, 3, 82, 0, []),
  (73, .iload 5, 2, 5, 0, []),
  (75, .iload_n 2, 1, 2, 0, []),
  (76, .if_icmp .le 15, 3, 91, 0, []),
  (79, .goto 9, 3, 88, 0, []),
  (82, .iload 5, 2, 5, 0, []),
  (84, .iload_n 2, 1, 2, 0, []),
  (85, .if_icmp .ge 6, 3, 91, 0, []),
  (88, .iload 5, 2, 5, 0, []),
  (90, .istore_n 2, 1, 2, 0, []),
  (91, .iinc 4 1, 3, 4, nI 1, []),
  (94, .goto (-57), 3, 37, 0, []),
  (97, .iload_n 2, 1, 2, 0, []),
  (98, .ireturn, 1, 0, 0, [])]
theorem kk_X8_solved : (k_X8_solved.all fun e => mChk cX8_solved e.1 e.2) = true := by decide +kernel
def l_X8_solved (r : Nat) : List (Nat × Nat × (mG → mT)) := [(3 * 201, 0 + 1, t_X8_mayPlay), (3 * 151 + 1, 1, t_X8_side), (3 * 139 + 1, 2, t_X8_has), (3 * 204, 1 + 1, (t_X8_tried r))]
def f_X8_solved (r : Nat) (g : mG) : mF := (mLk k_X8_solved, mLk fl_RX8, mLk ((l_X8_solved r).map fun e => (e.1, e.2.1, e.2.2 g)), mLk ([] : List (Nat × mV)), mLk ([] : List (Nat × mV)), some .int)
theorem m_X8_solved (r : Nat) (g : mG) : mMono (f_X8_solved r g) := mMonoL (g := g) (l := l_X8_solved r) (List.forall_mem_cons.mpr ⟨mo_X8_mayPlay, List.forall_mem_cons.mpr ⟨mo_X8_side, List.forall_mem_cons.mpr ⟨mo_X8_has, List.forall_mem_cons.mpr ⟨(mo_X8_tried r), fun _ h => absurd h List.not_mem_nil⟩⟩⟩⟩) rfl

theorem v_so_0 (r : Nat) (g : mG) (M : mM) (P : mP) 
    (h : (¬ (M 50 19) = (nI 8) → ∃ x2 : aX × (Nat → Int32) × List Nat, pre_X8_mayPlay x2 [.inr (some 50)] M ∧ ∀ (r4 : Int32) (M3 : mM), post_X8_mayPlay x2 [.inr (some 50)] M r4 M3 → ((¬ (fSide (M3 50 6)) = 0 → mRun (mSx g) (f_X8_solved r g) P (37, [some (.inr (some 50)), some (.inl r4), some (.inl (-1)), some (.inl (nI 0)), some (.inl (nI 0)), none], [], M3)) ∧ (¬ (¬ (fSide (M3 50 6)) = 0) → mRun (mSx g) (f_X8_solved r g) P (37, [some (.inr (some 50)), some (.inl r4), some (.inl (-1)), some (.inl (nI 1)), some (.inl (nI 0)), none], [], M3)))) ∧ (¬ (¬ (M 50 19) = (nI 8)) → P (some (.inl (nI 0))) M)) :
    mRun (mSx g) (f_X8_solved r g) P (0, [some (.inr (some 50)), none, none, none, none, none], [], M) := mRun.vc (m_X8_solved r g) [37] 19 h

theorem v_so_37 (r : Nat) (g : mG) (M : mM) (P : mP) (m b f c : Int32) (l5 : Option mV)
    (h : ((nI 32) ≤ c → P (some (.inl b)) M) ∧ (¬ ((nI 32) ≤ c) → (¬ (fHas m c) = 0 → ∃ x3 : aX × (Nat → Int32) × List Nat × Nat, pre_X8_tried r x3 [.inr (some 50), .inl c] M ∧ ∀ (r5 : Int32) (M4 : mM), post_X8_tried r x3 [.inr (some 50), .inl c] M r5 M4 → ((b = (-1) → mRun (mSx g) (f_X8_solved r g) P (37, [some (.inr (some 50)), some (.inl m), some (.inl r5), some (.inl f), some (.inl (c + (nI 1))), some (.inl r5)], [], M4)) ∧ (¬ (b = (-1)) → (f = 0 → (b ≤ r5 → mRun (mSx g) (f_X8_solved r g) P (37, [some (.inr (some 50)), some (.inl m), some (.inl b), some (.inl f), some (.inl (c + (nI 1))), some (.inl r5)], [], M4)) ∧ (¬ (b ≤ r5) → mRun (mSx g) (f_X8_solved r g) P (37, [some (.inr (some 50)), some (.inl m), some (.inl r5), some (.inl f), some (.inl (c + (nI 1))), some (.inl r5)], [], M4))) ∧ (¬ (f = 0) → (r5 ≤ b → mRun (mSx g) (f_X8_solved r g) P (37, [some (.inr (some 50)), some (.inl m), some (.inl b), some (.inl f), some (.inl (c + (nI 1))), some (.inl r5)], [], M4)) ∧ (¬ (r5 ≤ b) → mRun (mSx g) (f_X8_solved r g) P (37, [some (.inr (some 50)), some (.inl m), some (.inl r5), some (.inl f), some (.inl (c + (nI 1))), some (.inl r5)], [], M4)))))) ∧ (¬ (¬ (fHas m c) = 0) → mRun (mSx g) (f_X8_solved r g) P (37, [some (.inr (some 50)), some (.inl m), some (.inl b), some (.inl f), some (.inl (c + (nI 1))), l5], [], M)))) :
    mRun (mSx g) (f_X8_solved r g) P (37, [some (.inr (some 50)), some (.inl m), some (.inl b), some (.inl f), some (.inl c), l5], [], M) := mRun.vc (m_X8_solved r g) [37] 25 h

/-- the best so far, less what was won; -1: none -/
def oB (b : Bool) (f : Nat → Nat) (e w : Nat) (l : List Nat) : Int32 := if l = [] then -1 else nI (fS b f l e - w)
theorem fS_add {b : Bool} {f : Nat → Nat} {c : Nat} : ∀ {l : List Nat} {e : Nat}, fS b f (l ++ [c]) e = bif b then max (fS b f l e) (f c) else min (fS b f l e) (f c)
  | [], _ => rfl
  | d :: l, e => by
    rw [List.cons_append, fS, fS_add (l := l), fS]
theorem so_loop (r : Nat) (g : mG) (P : mP) (M0 : mM) (x : aX) (dl : Nat → Int32) (cs : List Nat) (hok : aOk x dl cs) (hn : cs.length < 32) (hr : 32 ≤ cs.length + r) (b : Bool) (hbb : decide (aTn x cs cs.length % 2 = 0) = b)
    (hP : ∀ M', RmQ M' x dl cs → FrQ M0 M' → P (some (.inl (nI (aR x dl cs)))) M') :
    ∀ (n c : Nat) (M : mM) (l5 : Option mV), c + n = 32 → RmQ M x dl cs → FrQ M0 M →
    mRun (mSx g) (f_X8_solved r g) P (37, [some (.inr (some 50)), some (.inl (aAl x dl cs)), some (.inl (oB b (fun c => aV x dl 0 (31 - cs.length) (cs ++ [c])) (bif b then aWn x cs 0 (cs.length / 4) else aWn x cs 0 (cs.length / 4) + (8 - cs.length / 4)) (aWn x cs 0 (cs.length / 4)) (bts (ub (aAl x dl cs)) c))), some (.inl (bif b then nI 1 else nI 0)), some (.inl (nI c)), l5], [], M) := by
  have hW := aWn_le (x := x) (cs := cs) (s := 0) (cs.length / 4)
  have hbd : ∀ k, k < 32 → bt (aAl x dl cs) k = true → aWn x cs 0 (cs.length / 4) ≤ aV x dl 0 (31 - cs.length) (cs ++ [k]) ∧ aV x dl 0 (31 - cs.length) (cs ++ [k]) ≤ aWn x cs 0 (cs.length / 4) + (8 - cs.length / 4) := fun k h1 h => by
    have h2 := aV_bd (x := x) (dl := dl) (s := 0) (31 - cs.length) (cs ++ [k]) (by rw [List.length_append, List.length_singleton]; omega) (al_ok hok (by omega) h1 h)
    have h3 := aWn_step (x := x) (cs := cs) (c := k) (s := 0) (by omega)
    exact ⟨Nat.le_trans h3.1 h2.1, Nat.le_trans h2.2 h3.2⟩
  have hres : aR x dl cs = fS b (fun c => aV x dl 0 (31 - cs.length) (cs ++ [c])) (bts (ub (aAl x dl cs)) 32) (bif b then aWn x cs 0 (cs.length / 4) else aWn x cs 0 (cs.length / 4) + (8 - cs.length / 4)) - aWn x cs 0 (cs.length / 4) := by
    unfold aR
    rw [show 32 - cs.length = 31 - cs.length + 1 by omega, aV, hbb]
  intro n
  induction n with
  | zero =>
    intro c M l5 h hQ hF
    obtain rfl : c = 32 := by omega
    have hne : bts (ub (aAl x dl cs)) 32 ≠ [] := fun z => aAl_ne hok hn (bts_nil z)
    refine v_so_37 r g M P _ _ _ _ _ ⟨fun _ => ?_, fun w => absurd (nI_le (Nat.le_refl 32) (by decide)) w⟩
    unfold oB
    rw [if_neg hne, ← hres]
    exact hP M hQ hF
  | succ n ih =>
    intro c M l5 h hQ hF
    have go := ih (c + 1)
    refine v_so_37 r g M P _ _ _ _ _ ⟨fun w => absurd w (nI_ge (by omega) (by decide)), fun _ => ?_⟩
    rw [fHas_eq (by omega), mb_0, nI_add]
    refine ⟨fun w => ?_, fun w => ?_⟩
    · have hc0 := Classical.not_not.mp w
      have hb2 := hbd c (by omega) hc0
      refine ⟨(x, dl, cs, c), ⟨rfl, hQ, hok, hn, by show c < 32; omega, hc0, hr⟩, fun r5 M5 h5 => ?_⟩
      obtain ⟨hv, hQ5, hF5⟩ := h5
      dsimp only at hv hQ5
      have go' := fun l5 => go M5 l5 (by omega) hQ5 (hF.trans hF5)
      have e1 := bts_y hc0
      rw [e1] at go'
      have hol : ∀ d ∈ bts (ub (aAl x dl cs)) c, aWn x cs 0 (cs.length / 4) ≤ aV x dl 0 (31 - cs.length) (cs ++ [d]) ∧ aV x dl 0 (31 - cs.length) (cs ++ [d]) ≤ aWn x cs 0 (cs.length / 4) + (8 - cs.length / 4) := fun d hd => by
        have := bts_mem.mp hd
        exact hbd d (by omega) this.2
      have hv' : r5 = nI (aV x dl 0 (31 - cs.length) (cs ++ [c]) - aWn x cs 0 (cs.length / 4)) := hv
      have hfs := fS_bd (b := b) (f := fun c => aV x dl 0 (31 - cs.length) (cs ++ [c])) (A := aWn x cs 0 (cs.length / 4)) (B := aWn x cs 0 (cs.length / 4) + (8 - cs.length / 4)) (l := bts (ub (aAl x dl cs)) c) (e := bif b then aWn x cs 0 (cs.length / 4) else aWn x cs 0 (cs.length / 4) + (8 - cs.length / 4)) hol (by cases b <;> simp)
      rw [hv']
      unfold oB at go' ⊢
      rw [if_neg (by simp), fS_add] at go'
      by_cases hl : bts (ub (aAl x dl cs)) c = []
      · rw [if_pos hl]
        rw [hl, fS] at go'
        have e2 : (bif b then max (bif b then aWn x cs 0 (cs.length / 4) else aWn x cs 0 (cs.length / 4) + (8 - cs.length / 4)) (aV x dl 0 (31 - cs.length) (cs ++ [c])) else min (bif b then aWn x cs 0 (cs.length / 4) else aWn x cs 0 (cs.length / 4) + (8 - cs.length / 4)) (aV x dl 0 (31 - cs.length) (cs ++ [c]))) = aV x dl 0 (31 - cs.length) (cs ++ [c]) := by
          cases b
          · simp only [cond_false]
            omega
          · simp only [cond_true]
            omega
        rw [e2] at go'
        exact ⟨fun _ => go' _, fun z => absurd rfl z⟩
      · rw [if_neg hl]
        generalize fS b (fun c => aV x dl 0 (31 - cs.length) (cs ++ [c])) (bts (ub (aAl x dl cs)) c) (bif b then aWn x cs 0 (cs.length / 4) else aWn x cs 0 (cs.length / 4) + (8 - cs.length / 4)) = F at hfs go' ⊢
        generalize aV x dl 0 (31 - cs.length) (cs ++ [c]) = V at hb2 go' ⊢
        refine ⟨fun z => absurd z (ne_m1 (by omega)), fun _ => ?_⟩
        cases b
        · simp only [cond_false] at go' ⊢
          refine ⟨fun _ => ⟨fun z => ?_, fun z => ?_⟩, fun z => absurd rfl z⟩
          · have := (nI_leI (by omega) (by omega)).mp z
            rw [show min F V = F by omega] at go'
            exact go' _
          · have z' : ¬ F - aWn x cs 0 (cs.length / 4) ≤ V - aWn x cs 0 (cs.length / 4) := fun y => z (nI_le y (by omega))
            rw [show min F V = V by omega] at go'
            exact go' _
        · simp only [cond_true] at go' ⊢
          refine ⟨fun z => absurd z (by decide), fun _ => ⟨fun z => ?_, fun z => ?_⟩⟩
          · have := (nI_leI (by omega) (by omega)).mp z
            rw [show max F V = F by omega] at go'
            exact go' _
          · have z' : ¬ V - aWn x cs 0 (cs.length / 4) ≤ F - aWn x cs 0 (cs.length / 4) := fun y => z (nI_le y (by omega))
            rw [show max F V = V by omega] at go'
            exact go' _
    · have go' := go M l5 (by omega) hQ hF
      rw [bts_n (fun z => w (fun y => y z))] at go'
      exact go'
theorem so_run (r : Nat) (g : mG) (M : mM) (P : mP) (x : aX) (dl : Nat → Int32) (cs : List Nat) (hQ : RmQ M x dl cs) (hok : aOk x dl cs) (hr : 32 ≤ cs.length + r)
    (hP : ∀ M', RmQ M' x dl cs → FrQ M M' → P (some (.inl (nI (aR x dl cs)))) M') : mRun (mSx g) (f_X8_solved r g) P (0, [some (.inr (some 50)), none, none, none, none, none], [], M) := by
  have hlen := hok.2.2.1
  have r1 : M 50 19 = nI (cs.length / 4) := hQ.1.1
  have e6 : M 50 6 = nI (aTn x cs cs.length) := hQ.2.1.1
  have ht4 := aTn_lt (x := x) (cs := cs) (j := cs.length)
  refine v_so_0 r g M P ?_
  rw [r1]
  refine ⟨fun hz => ?_, fun hz => ?_⟩
  · have hn : cs.length < 32 := by
      have : ¬ cs.length / 4 = 8 := fun z => hz (by rw [z])
      omega
    refine ⟨(x, dl, cs), ⟨rfl, hQ, hok, hn⟩, fun r3 M2 h3 => ?_⟩
    obtain ⟨rfl, rfl⟩ := h3
    rw [e6, fSide_nI (by omega)]
    dsimp only
    refine ⟨fun h => ?_, fun h => ?_⟩
    · have hb : decide (aTn x cs cs.length % 2 = 0) = false := decide_eq_false (fun z => h (by rw [z]; rfl))
      exact so_loop r g P M2 x dl cs hok hn hr false hb hP 32 0 M2 none rfl hQ FrQ.refl
    · have hb : decide (aTn x cs cs.length % 2 = 0) = true := decide_eq_true ((nI_eq (b := 0) (by omega) (by decide)).mp (Classical.not_not.mp h))
      exact so_loop r g P M2 x dl cs hok hn hr true hb hP 32 0 M2 none rfl hQ FrQ.refl
  · have hz' := (nI_eq (b := 8) (by omega) (by decide)).mp (Classical.not_not.mp hz)
    have hl : cs.length = 32 := by omega
    have e : aR x dl cs = 0 := by
      unfold aR
      rw [hl, Nat.sub_self, aV, hl, Nat.sub_self]
    have hP' := hP M hQ FrQ.refl
    rw [e] at hP'
    exact hP'
theorem run_X8_solved (r : Nat) : mRunOf 6 (t_X8_solved (r + 1)) (f_X8_solved r) := fun g as M P hT => by
  obtain ⟨⟨x, dl, cs⟩, ⟨rfl, h3, h4, h5⟩, hP⟩ := hT
  refine ⟨Nat.le_of_ble_eq_true rfl, ?_⟩
  dsimp only at h3 h4 h5
  exact so_run r g M P x dl cs h3 h4 (by omega) (fun M' k1 k2 => hP _ _ ⟨rfl, k1, k2⟩)
theorem ok_X8_solved : ∀ r, mOK yX8_solved cX8_solved 6 (some .int) (6 + 2 * r) (t_X8_solved r)
  | 0 => fun l g sz as M P hT => by
    obtain ⟨q, ⟨h1, h2, h3, h4⟩, -⟩ := hT
    have := h3.2.2.1
    omega
  | r + 1 => mOK.of (f_X8_solved r) (by decide) (fun _ => rfl) (fun g => mCodeOK kk_X8_solved) (fun g => mFldL fk_RX8 rfl) (fun g idx v h => by cases h) (fun g idx v h => by cases h) (mCalL (l := l_X8_solved r) (List.forall_mem_cons.mpr ⟨mSite.V (idx := 201) ok_X8_mayPlay (by omega) (by decide) rv_X8_mayPlay wc_X8_mayPlay wk_RX8_201 wi_X8_mayPlay wl_X8_mayPlay wn_RX8 wd_X8_mayPlay, List.forall_mem_cons.mpr ⟨mSite.S (idx := 151) ok_X8_side (by omega) (by decide) wc_X8_side wk_RX8_151 wt_X8_side wn_RX8 wd_X8_side, List.forall_mem_cons.mpr ⟨mSite.S (idx := 139) ok_X8_has (by omega) (by decide) wc_X8_has wk_RX8_139 wt_X8_has wn_RX8 wd_X8_has, List.forall_mem_cons.mpr ⟨mSite.V (idx := 204) (ok_X8_tried r (ok_X8_solved r)) (by omega) (by decide) rv_X8_tried wc_X8_tried wk_RX8_204 wi_X8_tried wl_X8_tried wn_RX8 wd_X8_tried, fun _ h => absurd h List.not_mem_nil⟩⟩⟩⟩) (fun _ => rfl)) (run_X8_solved r)
