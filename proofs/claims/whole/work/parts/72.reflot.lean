/-! ===== THE REFERENCE: a draw, its chance ===== -/
def pre_X8_byLot (q : aZ × Int32) (as : List mV) (M : mM) : Prop := as = [.inr (some 50), .inl q.2] ∧ RpM M q.1 ∧ zInv q.1 ∧ (zT q.1.2.1).1.1 = 2
def post_X8_byLot (q : aZ × Int32) (_ : List mV) (M : mM) (v : Int32) (M' : mM) : Prop := v = nI (tDr (zT q.1.2.1) q.2) ∧ RpM M' q.1 ∧ FrM M M'
abbrev t_X8_byLot : mG → mT := mRi pre_X8_byLot post_X8_byLot
theorem mo_X8_byLot : mMn t_X8_byLot := mRi_mono
theorem rv_X8_byLot : mHasR yX8_byLot 1 t_X8_byLot := by
  intro g as M P hT hl
  obtain ⟨q, ⟨h2, -⟩, -⟩ := hT
  exact ⟨_, _, h2, is_X8 g _ rfl⟩
def k_X8_byLot : List (Nat × mI) := [(0, .iload_n 1, 1, 1, 0, []),
  (1, .istore_n 2, 1, 2, 0, []),
  (2, .aload_n 0, 1, 0, 0, []),
  (3, .getfield 79, 3, 0, 0, []),
  (6, .invokestatic 151, 3, 0, 0, []),
  (9, .istore_n 3, 1, 3, 0, []),
  (10, .aload_n 0, 1, 0, 0, []),
  (11, .getfield 97, 3, 0, 0, []),
  (14, .bipush 8, 2, 0, nI 8, []),
  (16, .if_icmp .ge 76, 3, 92, 0, []),
  (19, .aload_n 0, 1, 0, 0, []),
  (20, .invokevirtual 201, 3, 0, 0, []),
  (23, .istore 4, 2, 4, 0, []),
  (25, .iload_n 2, 1, 2, 0, []),
  (26, .ldc 170, 2, 0, 0, []),
  (28, .imul, 1, 0, 0, []),
  (29, .sipush 12345, 3, 0, nI 12345, []),
  (32, .iadd, 1, 0, 0, []),
  (33, .istore_n 2, 1, 2, 0, []),
  (34, .iload_n 2, 1, 2, 0, []),
  (35, .bipush 9, 2, 0, nI 9, []),
  (37, .iushr, 1, 0, 0, []),
  (38, .iload 4, 2, 4, 0, []),
  (40, .invokestatic 356, 3, 0, 0, []),
  (43, .irem, 1, 0, 0, []),
  (44, .istore 5, 2, 5, 0, []),
  (46, .iconst 0, 1, 0, nI 0, []),
  (47, .istore 6, 2, 6, 0, []),
  (49, .iload 4, 2, 4, 0, []),
  (51, .iload 6, 2, 6, 0, []),
  (53, .invokestatic 139, 3, 0, 0, []),
  (56, .ifCond .eq 8, 3, 64, 0, []),
  (59, .iload 5, 2, 5, 0, []),
  (61, .ifCond .le 22, 3, 83, 0, []),
  (64, .iload 4, 2, 4, 0, []),
  (66, .iload 6, 2, 6, 0, []),
  (68, .invokestatic 139, 3, 0, 0, []),
  (71, .ifCond .eq 6, 3, 77, 0, []),
  (74, .iinc 5 (-1), 3, 5, -1, []),
  (77, .iinc 6 1, 3, 6, nI 1, []),
  (80, .goto (-31), 3, 49, 0, []),
  (83, .aload_n 0, 1, 0, 0, []),
  (84, .iload 6, 2, 6, 0, []),
  (86, .invokevirtual 191, 3, 0, 0, []),
  (89, .goto (-79), 3, 10, 0, []),
  (92, .aload_n 0, 1, 0, 0, []),
  (93, .getfield 42, 3, 0, 0, []),
  (96, .iload_n 3, 1, 3, 0, []),
  (97, .iaload, 1, 0, 0, []),
  (98, .istore 4, 2, 4, 0, []),
  (100, .aload_n 0, 1, 0, 0, []),
  (101, .aload_n 0, 1, 0, 0, []),
  (102, .getfield 311, 3, 0, 0, []),
  (105, .invokevirtual 323, 3, 0, 0, []),
  (108, .iload 4, 2, 4, 0, []),
  (110, .ireturn, 1, 0, 0, [])]
theorem kk_X8_byLot : (k_X8_byLot.all fun e => mChk cX8_byLot e.1 e.2) = true := by decide +kernel
def l_X8_byLot : List (Nat × Nat × (mG → mT)) := [(3 * 151 + 1, 1, t_X8_side), (3 * 201, 0 + 1, t_X8_mayPlay), (3 * 356 + 1, 1, t_J6_bitCount_0f7a4), (3 * 139 + 1, 2, t_X8_has), (3 * 191, 1 + 1, t_X8_plays), (3 * 323, 1 + 1, t_X8_goesThrough)]
def f_X8_byLot (g : mG) : mF := (mLk k_X8_byLot, mLk fl_RX8, mLk (l_X8_byLot.map fun e => (e.1, e.2.1, e.2.2 g)), mLk cs_RX8, mLk ([] : List (Nat × mV)), some .int)
theorem m_X8_byLot (g : mG) : mMono (f_X8_byLot g) := mMonoL (g := g) (l := l_X8_byLot) (List.forall_mem_cons.mpr ⟨mo_X8_side, List.forall_mem_cons.mpr ⟨mo_X8_mayPlay, List.forall_mem_cons.mpr ⟨mo_J6_bitCount_0f7a4, List.forall_mem_cons.mpr ⟨mo_X8_has, List.forall_mem_cons.mpr ⟨mo_X8_plays, List.forall_mem_cons.mpr ⟨mo_X8_goesThrough, fun _ h => absurd h List.not_mem_nil⟩⟩⟩⟩⟩⟩) rfl

theorem w_bl_0 (g : mG) (M : mM) (P : mP) (s : Int32)
    (h : mRun (mSx g) (f_X8_byLot g) P (10, [some (.inr (some 50)), some (.inl s), some (.inl s), some (.inl (fSide (M 50 8))), none, none, none], [], M)) :
    mRun (mSx g) (f_X8_byLot g) P (0, [some (.inr (some 50)), some (.inl s), none, none, none, none, none], [], M) := mRun.vc (m_X8_byLot g) [10] 7 h

theorem w_bl_10 (g : mG) (M : mM) (P : mP) (s y d : Int32) (l4 l5 l6 : Option mV)
    (h : ((nI 8) ≤ (M 50 19) → vp_in d 2 ∧ (∃ x2 : Nat × List aE, pre_X8_goesThrough x2 [.inr (some 50), .inl (M 50 0)] M ∧ ∀ M3 : mM, post_X8_goesThrough x2 [.inr (some 50), .inl (M 50 0)] M M3 → (P (some (.inl (M 63 d.toNatClampNeg))) M3))) ∧ (¬ ((nI 8) ≤ (M 50 19)) → ∃ x4 : aX × (Nat → Int32) × List Nat, pre_X8_mayPlay x4 [.inr (some 50)] M ∧ ∀ (r6 : Int32) (M5 : mM), post_X8_mayPlay x4 [.inr (some 50)] M r6 M5 → (¬ (popC r6) = 0 ∧ (let v7 : Int32 := ((((y * (nI 1103515245)) + (nI 12345)).toUInt32 >>> ((nI 9).toUInt32 &&& Int32.toUInt32 31)).toInt32) - ((((y * (nI 1103515245)) + (nI 12345)).toUInt32 >>> ((nI 9).toUInt32 &&& Int32.toUInt32 31)).toInt32) / (popC r6) * (popC r6); mRun (mSx g) (f_X8_byLot g) P (49, [some (.inr (some 50)), some (.inl s), some (.inl ((y * (nI 1103515245)) + (nI 12345))), some (.inl d), some (.inl r6), some (.inl v7), some (.inl (nI 0))], [], M5))))) :
    mRun (mSx g) (f_X8_byLot g) P (10, [some (.inr (some 50)), some (.inl s), some (.inl y), some (.inl d), l4, l5, l6], [], M) := mRun.vc (m_X8_byLot g) [49] 23 h

theorem w_bl_49 (g : mG) (M : mM) (P : mP) (s y d m f c : Int32)
    (h : ((fHas m c) = 0 → ((fHas m c) = 0 → mRun (mSx g) (f_X8_byLot g) P (49, [some (.inr (some 50)), some (.inl s), some (.inl y), some (.inl d), some (.inl m), some (.inl f), some (.inl (c + (nI 1)))], [], M)) ∧ (¬ ((fHas m c) = 0) → mRun (mSx g) (f_X8_byLot g) P (49, [some (.inr (some 50)), some (.inl s), some (.inl y), some (.inl d), some (.inl m), some (.inl (f + (-1))), some (.inl (c + (nI 1)))], [], M))) ∧ (¬ ((fHas m c) = 0) → (f ≤ 0 → ∃ x4 : aX × (Nat → Int32) × List Nat × Nat, pre_X8_plays x4 [.inr (some 50), .inl c] M ∧ ∀ M5 : mM, post_X8_plays x4 [.inr (some 50), .inl c] M M5 → (mRun (mSx g) (f_X8_byLot g) P (10, [some (.inr (some 50)), some (.inl s), some (.inl y), some (.inl d), some (.inl m), some (.inl f), some (.inl c)], [], M5))) ∧ (¬ (f ≤ 0) → ((fHas m c) = 0 → mRun (mSx g) (f_X8_byLot g) P (49, [some (.inr (some 50)), some (.inl s), some (.inl y), some (.inl d), some (.inl m), some (.inl f), some (.inl (c + (nI 1)))], [], M)) ∧ (¬ ((fHas m c) = 0) → mRun (mSx g) (f_X8_byLot g) P (49, [some (.inr (some 50)), some (.inl s), some (.inl y), some (.inl d), some (.inl m), some (.inl (f + (-1))), some (.inl (c + (nI 1)))], [], M))))) :
    mRun (mSx g) (f_X8_byLot g) P (49, [some (.inr (some 50)), some (.inl s), some (.inl y), some (.inl d), some (.inl m), some (.inl f), some (.inl c)], [], M) := mRun.vc (m_X8_byLot g) [10, 49] 14 h

theorem bts_pre {X m : Nat} : ∀ n, ∃ r, bts X (m + n) = bts X m ++ r
  | 0 => ⟨[], (List.append_nil _).symm⟩
  | n + 1 => by
    obtain ⟨r, h⟩ := bts_pre (X := X) (m := m) n
    refine ⟨r ++ (if X.testBit (m + n) then [m + n] else []), ?_⟩
    rw [← Nat.add_assoc, bts, h, List.append_assoc]
theorem bts_get {X c : Nat} (h : X.testBit c = true) (hc : c < 32) : (bts X 32).getD (bts X c).length 0 = c := by
  obtain ⟨r, hr⟩ := bts_pre (X := X) (m := c + 1) (31 - c)
  have e : bts X (c + 1) = bts X c ++ [c] := by rw [bts, if_pos h]
  rw [show c + 1 + (31 - c) = 32 by omega, e] at hr
  rw [hr]
  simp
theorem bts_le {X c : Nat} (hc : c ≤ 32) : (bts X c).length ≤ (bts X 32).length := by
  obtain ⟨r, hr⟩ := bts_pre (X := X) (m := c) (32 - c)
  rw [show c + (32 - c) = 32 by omega] at hr
  rw [hr, List.length_append]
  omega
theorem bl_49 (g : mG) (P : mP) (x : aX) (dl : Nat → Int32) (cs : List Nat) (s y : Int32) (d : Nat) (k : Nat) (M : mM) (hQ : RmQ M x dl cs) (hok : aOk x dl cs) (hn : cs.length < 32) (hk : k < (bts (ub (aAl x dl cs)) 32).length)
    (hnext : ∀ (M' : mM) (l4 l5 l6 : Option mV), RmQ M' x dl (cs ++ [(bts (ub (aAl x dl cs)) 32).getD k 0]) → FrQ M M' → mRun (mSx g) (f_X8_byLot g) P (10, [some (.inr (some 50)), some (.inl s), some (.inl y), some (.inl (nI d)), l4, l5, l6], [], M')) :
    ∀ (n c : Nat), c + n = 32 → (bts (ub (aAl x dl cs)) c).length ≤ k → mRun (mSx g) (f_X8_byLot g) P (49, [some (.inr (some 50)), some (.inl s), some (.inl y), some (.inl (nI d)), some (.inl (aAl x dl cs)), some (.inl (nI (k - (bts (ub (aAl x dl cs)) c).length))), some (.inl (nI c))], [], M)
  | 0, c, h, hl => by
    obtain rfl : c = 32 := by omega
    omega
  | n + 1, c, h, hl => by
    have go := bl_49 g P x dl cs s y d k M hQ hok hn hk hnext n (c + 1) (by omega)
    have h32 := bts_32 (aAl x dl cs)
    refine w_bl_49 g M P _ _ _ _ _ _ ?_
    rw [fHas_eq (by omega), mb_0, nI_add]
    by_cases hb : bt (aAl x dl cs) c = true
    · have e1 := bts_y hb
      rw [e1, List.length_append, List.length_singleton] at go
      refine ⟨fun w => absurd hb w, fun _ => ⟨fun hz => ?_, fun hz => ⟨fun w => absurd hb w, fun _ => ?_⟩⟩⟩
      · have hz' : k - (bts (ub (aAl x dl cs)) c).length = 0 := by
          have := (nI_leI (b := 0) (by omega) (by decide)).mp hz
          omega
        have hkc : (bts (ub (aAl x dl cs)) 32).getD k 0 = c := by
          rw [show k = (bts (ub (aAl x dl cs)) c).length by omega]
          exact bts_get hb (by omega)
        rw [hkc] at hnext
        exact ⟨(x, dl, cs, c), ⟨rfl, hQ, hok, hn, by show c < 32; omega, aAl_sub hb⟩, fun M5 h5 => hnext M5 _ _ _ h5.1 h5.2⟩
      · have hz' : ¬ k - (bts (ub (aAl x dl cs)) c).length ≤ 0 := fun q => hz (nI_le q (by decide))
        rw [nI_s1 (by omega), show k - (bts (ub (aAl x dl cs)) c).length - 1 = k - ((bts (ub (aAl x dl cs)) c).length + 1) by omega]
        exact go (by omega)
    · have e1 := bts_n hb
      rw [e1] at go
      exact ⟨fun _ => ⟨fun _ => go hl, fun w => absurd hb w⟩, fun w => absurd hb w⟩
theorem bl_10 (g : mG) (P : mP) (M0 : mM) (z : aZ) (x : aX) (dl : Nat → Int32) (s : Int32) (d made : Nat) (hd : d < 2) (hR : RpM M0 z) (hI : zInv z)
    (hP : ∀ M', RmT M' (zT z.2.1) → FrR M0 M' → P (some (.inl (nI made))) M') :
    ∀ (n : Nat) (cs : List Nat) (y : Int32) (M : mM) (l4 l5 l6 : Option mV), cs.length + n = 32 → aOk x dl cs → RmQ M x dl cs → FrQ M0 M → aWn x (aDr x dl n y cs) d 8 = made →
      mRun (mSx g) (f_X8_byLot g) P (10, [some (.inr (some 50)), some (.inl s), some (.inl y), some (.inl (nI d)), l4, l5, l6], [], M)
  | 0, cs, y, M, l4, l5, l6, hn, hok, hQ, hF, hm => by
    have hl : cs.length = 32 := by omega
    have e19 : M 50 19 = nI (cs.length / 4) := hQ.1.1
    have e0 : M 50 0 = nI z.2.1.length := (hF.2 0 (by decide) (by decide)).trans hR.2.1.1
    refine w_bl_10 g M P _ _ _ _ _ _ ?_
    rw [e19, hl, e0, nI_clamp (by omega)]
    refine ⟨fun _ => ⟨vp_in_nI hd (by decide), ⟨(z.2.1.length, z.2.1), ⟨rfl, RmL_fr hR.2.1.2 (fun c a b => hF.1 c (by omega)), hI.2.1, Nat.le_refl _⟩, fun M3 h3 => ?_⟩⟩, fun w => absurd (by decide) w⟩
    obtain ⟨h31, h32⟩ := h3
    dsimp only at h31
    rw [List.take_length] at h31
    have hv : M 63 d = nI made := by
      rw [← hm, aDr]
      have h8 : aWn x cs d 8 = aWn x cs d (cs.length / 4) := by rw [hl]
      rw [h8]
      rcases (by omega : d = 0 ∨ d = 1) with rfl | rfl
      · exact hQ.1.2.2.2.2.2.2.2.1.trans (Int32.add_zero _)
      · exact hQ.1.2.2.2.2.2.2.2.2.trans (Int32.add_zero _)
    rw [hv]
    exact hP M3 h31 (hF.R.trans h32)
  | n + 1, cs, y, M, l4, l5, l6, hn, hok, hQ, hF, hm => by
    have hl : cs.length < 32 := by omega
    have e19 : M 50 19 = nI (cs.length / 4) := hQ.1.1
    refine w_bl_10 g M P _ _ _ _ _ _ ?_
    rw [e19]
    refine ⟨fun w => absurd ((nI_leI (by decide) (by omega)).mp w) (by omega), fun _ => ⟨(x, dl, cs), ⟨rfl, hQ, hok, hl⟩, fun r M5 h5 => ?_⟩⟩
    obtain ⟨rfl, rfl⟩ := h5
    dsimp only
    have h0 := al_pos hok hl
    have h32 := bts_32 (aAl x dl cs)
    have hy : y * nI 1103515245 + nI 12345 = fNext y := rfl
    have hub := ub_lt (fNext y)
    have hj := Nat.mod_lt (ub (fNext y) / 512) h0
    rw [pop_len, hy, pcS9, pk_rem (by omega) h0 (by omega)]
    refine ⟨nI_ne0 h0 (by omega), ?_⟩
    have hin := aCh_in (fNext y) hok hl
    rw [aDr] at hm
    unfold aCh at hm hin
    generalize ub (fNext y) / 512 % (bts (ub (aAl x dl cs)) 32).length = K at hm hin hj ⊢
    have go := bl_49 g P x dl cs s (fNext y) d K M5 hQ hok hl hj (fun M' l4 l5 l6 k1 k2 => bl_10 g P M0 z x dl s d made hd hR hI hP n _ (fNext y) M' l4 l5 l6 (by rw [List.length_append, List.length_singleton]; omega) (al_ok hok hl hin.1 hin.2) k1 (hF.trans k2) hm) 32 0 rfl (Nat.zero_le _)
    rw [show (bts (ub (aAl x dl cs)) 0).length = 0 from rfl, Nat.sub_zero] at go
    exact go
theorem run_X8_byLot : mRunOf 7 t_X8_byLot f_X8_byLot := fun g as M P hT => by
  obtain ⟨⟨z, s⟩, ⟨rfl, hR, hI, k⟩, hP⟩ := hT
  refine ⟨Nat.le_of_ble_eq_true rfl, ?_⟩
  dsimp only at hR hI k hP
  have hT := hI.T
  obtain ⟨n, t, q, d, c1, c2, c3, c3', c3'', c3n, c4, c5, c6, c7, c8⟩ := hT.2.2.2.1 k
  have e8 : M 50 8 = nI d := by
    rw [hR.T.2.1.1, c2]
    rfl
  refine w_bl_0 g M P _ ?_
  rw [e8, fSide_nI (by omega)]
  refine bl_10 g P M z (zT z.2.1).2.2.1.1 (zT z.2.1).2.2.1.2.1 s (d % 2) (tDr (zT z.2.1) s) (by omega) hR hI (fun M' a b => hP _ _ ⟨rfl, hR.R a b, b.M⟩) (32 - (zT z.2.1).2.2.1.2.2.2.2.length) _ s M none none none (by omega) c7 (hR.T.Q hT k) FrQ.refl ?_
  unfold tDr
  rw [c2]
  rfl
theorem ok_X8_byLot : mOK yX8_byLot cX8_byLot 7 (some .int) 7 t_X8_byLot := mOK.of f_X8_byLot (by decide) (fun _ => rfl) (fun g => mCodeOK kk_X8_byLot) (fun g => mFldL fk_RX8 rfl) (mCstL ck_RX8 (fun _ => rfl)) (fun g idx v h => by cases h) (mCalL (l := l_X8_byLot) (List.forall_mem_cons.mpr ⟨mSite.S (idx := 151) ok_X8_side (by decide) (by decide) wc_X8_side wk_RX8_151 wt_X8_side wn_RX8 wd_X8_side, List.forall_mem_cons.mpr ⟨mSite.V (idx := 201) ok_X8_mayPlay (by decide) (by decide) rv_X8_mayPlay wc_X8_mayPlay wk_RX8_201 wi_X8_mayPlay wl_X8_mayPlay wn_RX8 wd_X8_mayPlay, List.forall_mem_cons.mpr ⟨mSite.S (idx := 356) ok_J6_bitCount_0f7a4 (by decide) (by decide) wc_J6_bitCount_0f7a4 wk_RX8_356 wt_J6_bitCount_0f7a4 wn_RJ6 wd_J6_bitCount_0f7a4, List.forall_mem_cons.mpr ⟨mSite.S (idx := 139) ok_X8_has (by decide) (by decide) wc_X8_has wk_RX8_139 wt_X8_has wn_RX8 wd_X8_has, List.forall_mem_cons.mpr ⟨mSite.V (idx := 191) ok_X8_plays (by decide) (by decide) rv_X8_plays wc_X8_plays wk_RX8_191 wi_X8_plays wl_X8_plays wn_RX8 wd_X8_plays, List.forall_mem_cons.mpr ⟨mSite.V (idx := 323) ok_X8_goesThrough (by decide) (by decide) rv_X8_goesThrough wc_X8_goesThrough wk_RX8_323 wi_X8_goesThrough wl_X8_goesThrough wn_RX8 wd_X8_goesThrough, fun _ h => absurd h List.not_mem_nil⟩⟩⟩⟩⟩⟩) (fun _ => rfl)) run_X8_byLot

abbrev t_X8_drawn : mG → mT := pubM 1 F_drawn
theorem mo_X8_drawn : mMn t_X8_drawn := pubM_mono
theorem rv_X8_drawn : mHasR yX8_drawn 1 t_X8_drawn := pubM_recv rfl
def k_X8_drawn : List (Nat × mI) := [(0, .aload_n 0, 1, 0, 0, []),
  (1, .getfield 100, 3, 0, 0, []),
  (4, .iconst 2, 1, 0, nI 2, []),
  (5, .if_icmp .ne 11, 3, 16, 0, []),
  (8, .aload_n 0, 1, 0, 0, []),
  (9, .iload_n 1, 1, 1, 0, []),
  (10, .invokevirtual 361, 3, 0, 0, []),
  (13, .goto 5, 3, 18, 0, []),
  (16, .bipush (-3), 2, 0, -3, []),
  (18, .ireturn, 1, 0, 0, [])]
theorem kk_X8_drawn : (k_X8_drawn.all fun e => mChk cX8_drawn e.1 e.2) = true := by decide +kernel
def l_X8_drawn : List (Nat × Nat × (mG → mT)) := [(3 * 361, 1 + 1, t_X8_byLot)]
def f_X8_drawn (g : mG) : mF := (mLk k_X8_drawn, mLk fl_RX8, mLk (l_X8_drawn.map fun e => (e.1, e.2.1, e.2.2 g)), mLk ([] : List (Nat × mV)), mLk ([] : List (Nat × mV)), some .int)
theorem m_X8_drawn (g : mG) : mMono (f_X8_drawn g) := mMonoL (g := g) (l := l_X8_drawn) (List.forall_mem_cons.mpr ⟨mo_X8_byLot, fun _ h => absurd h List.not_mem_nil⟩) rfl

theorem w_drawn (g : mG) (M : mM) (P : mP) (x : Int32)
    (h : (¬ (M 50 5) = (nI 2) → P (some (.inl (-3))) M) ∧ (¬ (¬ (M 50 5) = (nI 2)) → ∃ x2 : aZ × Int32, pre_X8_byLot x2 [.inr (some 50), .inl x] M ∧ ∀ (r4 : Int32) (M3 : mM), post_X8_byLot x2 [.inr (some 50), .inl x] M r4 M3 → (P (some (.inl r4)) M3))) :
    mRun (mSx g) (f_X8_drawn g) P (0, [some (.inr (some 50)), some (.inl x)], [], M) := mRun.vc (m_X8_drawn g) [] 9 h

theorem run_X8_drawn : mRunOf 2 t_X8_drawn f_X8_drawn := runM1 (by decide) (fun g M P z x hR hI hP => by
  have hT := hI.T
  have hQ : ∀ v M', v = (if (zT z.2.1).1.1 = 2 then nI (tDr (zT z.2.1) x) else -3) → RpM M' z → FrM M M' → P (some (.inl v)) M' := fun v M' e => hP v M' e
  refine w_drawn g M P x ?_
  rw [hR.T.1.1, show nI (zT z.2.1).1.1 = nI 2 ↔ (zT z.2.1).1.1 = 2 from nI_at2 hT.1.1 (by decide)]
  refine ⟨fun h => ?_, fun h => ?_⟩
  · rw [if_neg h] at hQ
    exact hQ _ _ rfl hR FrM.refl
  · have h' := Classical.not_not.mp h
    rw [if_pos h'] at hQ
    refine ⟨(z, x), ⟨rfl, hR, hI, h'⟩, fun r M2 hr => ?_⟩
    exact hQ r M2 hr.1 hr.2.1 hr.2.2)

theorem ok_X8_drawn : mOK yX8_drawn cX8_drawn 2 (some .int) 8 t_X8_drawn := mOK.of f_X8_drawn (by decide) (fun _ => rfl) (fun g => mCodeOK kk_X8_drawn) (fun g => mFldL fk_RX8 rfl) (fun g idx v h => by cases h) (fun g idx v h => by cases h) (mCalL (l := l_X8_drawn) (List.forall_mem_cons.mpr ⟨mSite.V (idx := 361) ok_X8_byLot (by decide) (by decide) rv_X8_byLot wc_X8_byLot wk_RX8_361 wi_X8_byLot wl_X8_byLot wn_RX8 wd_X8_byLot, fun _ h => absurd h List.not_mem_nil⟩) (fun _ => rfl)) run_X8_drawn

def pre_X8_common (r : Nat) (q : Nat × Nat) (as : List mV) (_ : mM) : Prop := as = [.inl (nI q.1), .inl (nI q.2)] ∧ q.1 < 2 ^ 31 ∧ q.2 < 2 ^ 31 ∧ q.2 < r
def post_X8_common (_ : Nat) (q : Nat × Nat) (_ : List mV) (M : mM) (v : Int32) (M' : mM) : Prop := v = nI (Nat.gcd q.1 q.2) ∧ M' = M
abbrev t_X8_common (r : Nat) : mG → mT := mRi (pre_X8_common r) (post_X8_common r)
theorem mo_X8_common (r : Nat) : mMn (t_X8_common r) := mRi_mono
def k_X8_common : List (Nat × mI) := [(0, .iload_n 1, 1, 1, 0, []),
  (1, .ifCond .ne 7, 3, 8, 0, []),
  (4, .iload_n 0, 1, 0, 0, []),
  (5, .goto 10, 3, 15, 0, []),
  (8, .iload_n 1, 1, 1, 0, []),
  (9, .iload_n 0, 1, 0, 0, []),
  (10, .iload_n 1, 1, 1, 0, []),
  (11, .irem, 1, 0, 0, []),
  (12, .invokestatic 364, 3, 0, 0, []),
  (15, .ireturn, 1, 0, 0, [])]
theorem kk_X8_common : (k_X8_common.all fun e => mChk cX8_common e.1 e.2) = true := by decide +kernel
def l_X8_common (r : Nat) : List (Nat × Nat × (mG → mT)) := [(3 * 364 + 1, 2, (t_X8_common r))]
def f_X8_common (r : Nat) (g : mG) : mF := (mLk k_X8_common, mLk fl_RX8, mLk ((l_X8_common r).map fun e => (e.1, e.2.1, e.2.2 g)), mLk ([] : List (Nat × mV)), mLk ([] : List (Nat × mV)), some .int)
theorem m_X8_common (r : Nat) (g : mG) : mMono (f_X8_common r g) := mMonoL (g := g) (l := l_X8_common r) (List.forall_mem_cons.mpr ⟨(mo_X8_common r), fun _ h => absurd h List.not_mem_nil⟩) rfl

theorem w_com (r : Nat) (g : mG) (M : mM) (P : mP) (a b : Int32)
    (h : (¬ b = 0 → ¬ b = 0 ∧ (∃ x2 : Nat × Nat, pre_X8_common r x2 [.inl b, .inl (a - a / b * b)] M ∧ ∀ (r4 : Int32) (M3 : mM), post_X8_common r x2 [.inl b, .inl (a - a / b * b)] M r4 M3 → (P (some (.inl r4)) M3))) ∧ (¬ (¬ b = 0) → P (some (.inl a)) M)) :
    mRun (mSx g) (f_X8_common r g) P (0, [some (.inl a), some (.inl b)], [], M) := mRun.vc (m_X8_common r g) [] 8 h

theorem run_X8_common (r : Nat) : mRunOf 2 (t_X8_common (r + 1)) (f_X8_common r) := fun g as M P hT => by
  obtain ⟨⟨a, b⟩, ⟨rfl, h1, h2, h3⟩, hP⟩ := hT
  refine ⟨Nat.le_of_ble_eq_true rfl, ?_⟩
  dsimp only at h1 h2 h3
  have hP' : ∀ v, v = nI (Nat.gcd a b) → P (some (.inl v)) M := fun v e => hP v M ⟨e, rfl⟩
  refine w_com r g M P _ _ ⟨fun w => ⟨w, ?_⟩, fun w => ?_⟩
  · have hb : 0 < b := by
      rcases Nat.eq_zero_or_pos b with h | h
      · exact absurd (by rw [h]; rfl) w
      · exact h
    have hm := Nat.mod_lt a hb
    rw [pk_rem h1 hb h2]
    refine ⟨(b, a % b), ⟨rfl, h2, by show a % b < 2 ^ 31; omega, by show a % b < r; omega⟩, fun v M3 hv => ?_⟩
    obtain ⟨rfl, rfl⟩ := hv
    refine hP' _ ?_
    rw [Nat.gcd_comm a b, Nat.gcd_rec b a, Nat.gcd_comm (a % b) b]
  · have hb := (nI_eq (b := 0) h2 (by decide)).mp (Classical.not_not.mp w)
    refine hP' _ ?_
    rw [hb, Nat.gcd_zero_right]
theorem ok_X8_common : ∀ r, mOK yX8_common cX8_common 2 (some .int) (1 + r) (t_X8_common r)
  | 0 => fun l g sz as M P hT => by
    obtain ⟨q, ⟨h1, h2, h3, h4⟩, -⟩ := hT
    omega
  | r + 1 => mOK.of (f_X8_common r) (by decide) (fun _ => rfl) (fun g => mCodeOK kk_X8_common) (fun g => mFldL fk_RX8 rfl) (fun g idx v h => by cases h) (fun g idx v h => by cases h) (mCalL (l := l_X8_common r) (List.forall_mem_cons.mpr ⟨mSite.S (idx := 364) (ok_X8_common r) (by omega) (by decide) wc_X8_common wk_RX8_364 wt_X8_common wn_RX8 wd_X8_common, fun _ h => absurd h List.not_mem_nil⟩) (fun _ => rfl)) (run_X8_common r)
theorem aLt_gcd {v a b : Nat} (hb : 0 < b) : ∀ d, Nat.gcd a b ≤ d → aLt v a b d = v / Nat.gcd a b
  | 0, h => by
    have := Nat.gcd_pos_of_pos_right a hb
    omega
  | d + 1, h => by
    have hp := Nat.gcd_pos_of_pos_right a hb
    rw [aLt]
    by_cases h0 : d = 0
    · rw [if_pos h0, show Nat.gcd a b = 1 by omega, Nat.div_one]
    · rw [if_neg h0]
      by_cases h1 : a % (d + 1) = 0 ∧ b % (d + 1) = 0
      · rw [if_pos h1]
        have hd : d + 1 ∣ Nat.gcd a b := Nat.dvd_gcd (Nat.dvd_of_mod_eq_zero h1.1) (Nat.dvd_of_mod_eq_zero h1.2)
        have := Nat.le_of_dvd hp hd
        rw [show d + 1 = Nat.gcd a b by omega]
      · rw [if_neg h1]
        refine aLt_gcd hb d ?_
        have : Nat.gcd a b ≠ d + 1 := fun e => h1 ⟨Nat.mod_eq_zero_of_dvd (e ▸ Nat.gcd_dvd_left a b), Nat.mod_eq_zero_of_dvd (e ▸ Nat.gcd_dvd_right a b)⟩
        omega
theorem fIn_120 (b : Int32) : fIn b (nI 1) (nI 20) = mb ((ix (b - nI 1) 20).isSome = true) := by
  unfold fIn
  refine mb_congr ?_
  rcases ix_m1 (b := b) with ⟨h, e⟩ | ⟨j, hj, rfl, e⟩
  · rw [e]
    refine ⟨fun w => ?_, fun w => by cases w⟩
    rcases h with h | h
    · exact absurd w.1 (Int32.not_le.mpr h)
    · exact absurd w.2 (Int32.not_le.mpr h)
  · rw [e]
    exact ⟨fun _ => rfl, fun _ => ⟨nI_le (by omega) (by omega), nI_le (by omega) (by decide)⟩⟩
abbrev t_X8_chance : mG → mT := pubM 3 F_chance
theorem mo_X8_chance : mMn t_X8_chance := pubM_mono
theorem rv_X8_chance : mHasR yX8_chance 3 t_X8_chance := pubM_recv rfl
def k_X8_chance : List (Nat × mI) := [(0, .iload_n 2, 1, 2, 0, []),
  (1, .iconst 1, 1, 0, nI 1, []),
  (2, .bipush 20, 2, 0, nI 20, []),
  (4, .invokestatic 214, 3, 0, 0, []),
  (7, .ifCond .eq 12, 3, 19, 0, []),
  (10, .iload_n 3, 1, 3, 0, []),
  (11, .iconst 0, 1, 0, nI 0, []),
  (12, .iconst 1, 1, 0, nI 1, []),
  (13, .invokestatic 214, 3, 0, 0, []),
  (16, .ifCond .ne 6, 3, 22, 0, []),
  (19, .bipush (-2), 2, 0, -2, []),
  (21, .ireturn, 1, 0, 0, []),
  (22, .aload_n 0, 1, 0, 0, []),
  (23, .getfield 100, 3, 0, 0, []),
  (26, .iconst 2, 1, 0, nI 2, []),
  (27, .if_icmp .eq 6, 3, 33, 0, []),
  (30, .bipush (-3), 2, 0, -3, []),
  (32, .ireturn, 1, 0, 0, []),
  (33, .iconst 0, 1, 0, nI 0, []),
  (34, .istore 4, 2, 4, 0, []),
  (36, .iconst 0, 1, 0, nI 0, []),
  (37, .istore 5, 2, 5, 0, []),
  (39, .iload 5, 2, 5, 0, []),
  (41, .iload_n 2, 1, 2, 0, []),
  (42, .if_icmp .ge 27, 3, 69, 0, []),
  (45, .aload_n 0, 1, 0, 0, []),
  (46, .iload_n 1, 1, 1, 0, []),
  (47, .iload 5, 2, 5, 0, []),
  (49, .iadd, 1, 0, 0, []),
  (50, .invokevirtual 361, 3, 0, 0, []),
  (53, .aload_n 0, 1, 0, 0, []),
  (54, .getfield 85, 3, 0, 0, []),
  (57, .if_icmp .lt 6, 3, 63, 0, []),
  (60, .iinc 4 1, 3, 4, nI 1, []),
  (63, .iinc 5 1, 3, 5, nI 1, []),
  (66, .goto (-27), 3, 39, 0, []),
  (69, .iload_n 3, 1, 3, 0, []),
  (70, .ifCond .ne 8, 3, 78, 0, []),
  (73, .iload 4, 2, 4, 0, []),
  (75, .goto 4, 3, 79, 0, []),
  (78, .iload_n 2, 1, 2, 0, []),
  (79, .iload 4, 2, 4, 0, []),
  (81, .iload_n 2, 1, 2, 0, []),
  (82, .invokestatic 364, 3, 0, 0, []),
  (85, .idiv, 1, 0, 0, []),
  (86, .ireturn, 1, 0, 0, [])]
theorem kk_X8_chance : (k_X8_chance.all fun e => mChk cX8_chance e.1 e.2) = true := by decide +kernel
def l_X8_chance : List (Nat × Nat × (mG → mT)) := [(3 * 214 + 1, 3, t_X8_in), (3 * 361, 1 + 1, t_X8_byLot), (3 * 364 + 1, 2, (t_X8_common 21))]
def f_X8_chance (g : mG) : mF := (mLk k_X8_chance, mLk fl_RX8, mLk (l_X8_chance.map fun e => (e.1, e.2.1, e.2.2 g)), mLk ([] : List (Nat × mV)), mLk ([] : List (Nat × mV)), some .int)
theorem m_X8_chance (g : mG) : mMono (f_X8_chance g) := mMonoL (g := g) (l := l_X8_chance) (List.forall_mem_cons.mpr ⟨mo_X8_in, List.forall_mem_cons.mpr ⟨mo_X8_byLot, List.forall_mem_cons.mpr ⟨(mo_X8_common 21), fun _ h => absurd h List.not_mem_nil⟩⟩⟩) rfl

theorem w_ch_0 (g : mG) (M : mM) (P : mP) (x y u : Int32)
    (h : ((fIn y (nI 1) (nI 20)) = 0 → P (some (.inl (-2))) M) ∧ (¬ ((fIn y (nI 1) (nI 20)) = 0) → (¬ (fIn u (nI 0) (nI 1)) = 0 → ((M 50 5) = (nI 2) → mRun (mSx g) (f_X8_chance g) P (39, [some (.inr (some 50)), some (.inl x), some (.inl y), some (.inl u), some (.inl (nI 0)), some (.inl (nI 0))], [], M)) ∧ (¬ ((M 50 5) = (nI 2)) → P (some (.inl (-3))) M)) ∧ (¬ (¬ (fIn u (nI 0) (nI 1)) = 0) → P (some (.inl (-2))) M))) :
    mRun (mSx g) (f_X8_chance g) P (0, [some (.inr (some 50)), some (.inl x), some (.inl y), some (.inl u), none, none], [], M) := mRun.vc (m_X8_chance g) [39] 19 h

theorem w_ch_39 (g : mG) (M : mM) (P : mP) (x y u so k : Int32)
    (h : (y ≤ k → (¬ u = 0 → ∃ x3 : Nat × Nat, pre_X8_common 21 x3 [.inl so, .inl y] M ∧ ∀ (r5 : Int32) (M4 : mM), post_X8_common 21 x3 [.inl so, .inl y] M r5 M4 → (¬ r5 = 0 ∧ (P (some (.inl (y / r5))) M4))) ∧ (¬ (¬ u = 0) → ∃ x6 : Nat × Nat, pre_X8_common 21 x6 [.inl so, .inl y] M ∧ ∀ (r8 : Int32) (M7 : mM), post_X8_common 21 x6 [.inl so, .inl y] M r8 M7 → (¬ r8 = 0 ∧ (P (some (.inl (so / r8))) M7)))) ∧ (¬ (y ≤ k) → ∃ x9 : aZ × Int32, pre_X8_byLot x9 [.inr (some 50), .inl (x + k)] M ∧ ∀ (r11 : Int32) (M10 : mM), post_X8_byLot x9 [.inr (some 50), .inl (x + k)] M r11 M10 → ((r11 < (M10 50 10) → mRun (mSx g) (f_X8_chance g) P (39, [some (.inr (some 50)), some (.inl x), some (.inl y), some (.inl u), some (.inl so), some (.inl (k + (nI 1)))], [], M10)) ∧ (¬ (r11 < (M10 50 10)) → mRun (mSx g) (f_X8_chance g) P (39, [some (.inr (some 50)), some (.inl x), some (.inl y), some (.inl u), some (.inl (so + (nI 1))), some (.inl (k + (nI 1)))], [], M10))))) :
    mRun (mSx g) (f_X8_chance g) P (39, [some (.inr (some 50)), some (.inl x), some (.inl y), some (.inl u), some (.inl so), some (.inl k)], [], M) := mRun.vc (m_X8_chance g) [39] 15 h

theorem chM_loop (g : mG) (P : mP) (M0 : mM) (z : aZ) (x : Int32) (m q : Nat) (hm0 : 0 < m) (hm : m ≤ 20) (hq : q < 2) (hI : zInv z) (l1 : (zT z.2.1).1.1 = 2)
    (hQ : ∀ v M', v = nI (aLt (if q = 0 then tGood (zT z.2.1) x m else m) (tGood (zT z.2.1) x m) m m) → RpM M' z → FrM M0 M' → P (some (.inl v)) M') :
    ∀ (j k : Nat) (M : mM), k + j = m → RpM M z → FrM M0 M →
    mRun (mSx g) (f_X8_chance g) P (39, [some (.inr (some 50)), some (.inl x), some (.inl (nI m)), some (.inl (nI q)), some (.inl (nI (tGood (zT z.2.1) x k))), some (.inl (nI k))], [], M)
  | 0, k, M, h, hR, hF => by
    obtain rfl : k = m := by omega
    have hg := cG_le (fun k => decide (((zT z.2.1).2.1.2.1.map fun q => q.1).getD 0 ≤ tDr (zT z.2.1) (x + nI k))) k
    have hg' : tGood (zT z.2.1) x k ≤ k := hg
    have hgp := Nat.gcd_pos_of_pos_right (tGood (zT z.2.1) x k) hm0
    have hgl := Nat.le_of_dvd hm0 (Nat.gcd_dvd_right (tGood (zT z.2.1) x k) k)
    have hd : ∀ v, aLt v (tGood (zT z.2.1) x k) k k = v / Nat.gcd (tGood (zT z.2.1) x k) k := fun v => aLt_gcd hm0 k hgl
    have fin : ∀ a, a ≤ 20 → (if q = 0 then tGood (zT z.2.1) x k else k) = a → ∃ x4 : Nat × Nat, pre_X8_common 21 x4 [.inl (nI (tGood (zT z.2.1) x k)), .inl (nI k)] M ∧ ∀ (r6 : Int32) (M5 : mM), post_X8_common 21 x4 [.inl (nI (tGood (zT z.2.1) x k)), .inl (nI k)] M r6 M5 → ¬ r6 = 0 ∧ P (some (.inl (nI a / r6))) M5 := fun a ha e => by
      rw [e] at hQ
      refine ⟨(tGood (zT z.2.1) x k, k), ⟨rfl, by show tGood (zT z.2.1) x k < 2 ^ 31; omega, by show k < 2 ^ 31; omega, by show k < 21; omega⟩, fun r M5 hr => ?_⟩
      obtain ⟨rfl, rfl⟩ := hr
      dsimp only
      refine ⟨nI_ne0 hgp (by omega), hQ _ _ ?_ hR hF⟩
      rw [hd, pk_div (by omega) hgp (by omega)]
    refine w_ch_39 g M P _ _ _ _ _ ⟨fun _ => ⟨fun h1 => fin k hm (if_neg (fun w => h1 (by rw [w]; rfl))), fun h1 => fin _ (by omega) (if_pos ((nI_eq (b := 0) (by omega) (by decide)).mp (Classical.not_not.mp h1)))⟩, fun w => absurd (nI_le (Nat.le_refl k) (by omega)) w⟩
  | j + 1, k, M, h, hR, hF => by
    obtain ⟨n, t, b, d, c1, c2, c3, c3b, c3c, c3d, -⟩ := hI.T.2.2.2.1 l1
    refine w_ch_39 g M P _ _ _ _ _ ⟨fun w => absurd w (nI_ge (by omega) (by omega)), fun _ => ?_⟩
    refine ⟨(z, x + nI k), ⟨rfl, hR, hI, l1⟩, fun r M2 hr => ?_⟩
    obtain ⟨hr1, hR2, hF2⟩ := hr
    dsimp only at hr1 hR2
    have b2 : M2 50 10 = nI n := by
      rw [hR2.T.2.1.2.2.1, c1]
      rfl
    have hw : tDr (zT z.2.1) (x + nI k) ≤ 8 := aWn_le _
    rw [hr1, b2, nI_add, nI_add]
    have go := chM_loop g P M0 z x m q hm0 hm hq hI l1 hQ j (k + 1) M2 (by omega) hR2 (hF.trans hF2)
    have e1 : ((zT z.2.1).2.1.2.1.map fun q => q.1).getD 0 = n := by rw [c1]; rfl
    refine ⟨fun w => ?_, fun w => ?_⟩
    · have w' := (nI_ltI (by omega) (by omega)).mp w
      have e : tGood (zT z.2.1) x (k + 1) = tGood (zT z.2.1) x k := by
        unfold tGood
        rw [cG, e1, if_neg (by rw [decide_eq_true_eq]; omega), Nat.add_zero]
      rw [e] at go
      exact go
    · have w' : ¬ tDr (zT z.2.1) (x + nI k) < n := fun y => w (nI_lt y (by omega))
      have e : tGood (zT z.2.1) x (k + 1) = tGood (zT z.2.1) x k + 1 := by
        unfold tGood
        rw [cG, e1, if_pos (by rw [decide_eq_true_eq]; omega)]
      rw [e] at go
      exact go
theorem run_X8_chance : mRunOf 6 t_X8_chance f_X8_chance := runM3 (by decide) (fun g M P z x y u hR hI hP => by
  have hT := hI.T
  have hQ : ∀ v M', v = (F_chance z [x, y, u]).1 → RpM M' z → FrM M M' → P (some (.inl v)) M' := fun v M' e => hP v M' e
  refine w_ch_0 g M P x y u ?_
  rw [hR.T.1.1, show nI (zT z.2.1).1.1 = nI 2 ↔ (zT z.2.1).1.1 = 2 from nI_at2 hT.1.1 (by decide), fIn_120, fI1]
  rcases ix_m1 (b := y) with ⟨hy, e1⟩ | ⟨m, hm, rfl, e1⟩
  · rw [show (F_chance z [x, y, u]).1 = -2 by simp only [F_chance, e1]] at hQ
    rw [e1, mb_no]
    exact ⟨fun _ => hQ _ _ rfl hR FrM.refl, fun h => absurd rfl h⟩
  rw [e1, mb_so]
  refine ⟨fun h => absurd h (by decide), fun _ => ?_⟩
  rcases ix_cs u (n := 2) (by decide) with ⟨hx, e2⟩ | ⟨q, hq, rfl, e2⟩
  · rw [show (F_chance z [x, nI (m + 1), u]).1 = -2 by simp only [F_chance, e1, e2]] at hQ
    rw [e2, mb_no]
    exact ⟨fun h => absurd rfl h, fun _ => hQ _ _ rfl hR FrM.refl⟩
  rw [show (F_chance z [x, nI (m + 1), nI q]).1 = if (zT z.2.1).1.1 = 2 then nI (aLt (if q = 0 then tGood (zT z.2.1) x (m + 1) else m + 1) (tGood (zT z.2.1) x (m + 1)) (m + 1) (m + 1)) else -3 by simp only [F_chance, e1, e2]] at hQ
  rw [e2, mb_so]
  refine ⟨fun _ => ⟨fun h => ?_, fun h => ?_⟩, fun h => absurd (by decide) h⟩
  · rw [if_pos h] at hQ
    exact chM_loop g P M z x (m + 1) q (by omega) (by omega) hq hI h hQ (m + 1) 0 M (by omega) hR FrM.refl
  · rw [if_neg h] at hQ
    exact hQ _ _ rfl hR FrM.refl)

theorem ok_X8_chance : mOK yX8_chance cX8_chance 6 (some .int) 23 t_X8_chance := mOK.of f_X8_chance (by decide) (fun _ => rfl) (fun g => mCodeOK kk_X8_chance) (fun g => mFldL fk_RX8 rfl) (fun g idx v h => by cases h) (fun g idx v h => by cases h) (mCalL (l := l_X8_chance) (List.forall_mem_cons.mpr ⟨mSite.S (idx := 214) ok_X8_in (by decide) (by decide) wc_X8_in wk_RX8_214 wt_X8_in wn_RX8 wd_X8_in, List.forall_mem_cons.mpr ⟨mSite.V (idx := 361) ok_X8_byLot (by decide) (by decide) rv_X8_byLot wc_X8_byLot wk_RX8_361 wi_X8_byLot wl_X8_byLot wn_RX8 wd_X8_byLot, List.forall_mem_cons.mpr ⟨mSite.S (idx := 364) (ok_X8_common 21) (by decide) (by decide) wc_X8_common wk_RX8_364 wt_X8_common wn_RX8 wd_X8_common, fun _ h => absurd h List.not_mem_nil⟩⟩⟩) (fun _ => rfl)) run_X8_chance

