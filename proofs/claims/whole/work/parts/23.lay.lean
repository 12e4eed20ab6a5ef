/-! ===== CLASS Play: a card is laid ===== -/
def FrP (p : Nat) (M M' : mM) : Prop := ∀ c, (c < p ∨ p + 7 < c) → M' c = M c
theorem aMk_in {dl : Nat → Int32} {cs : List Nat} {c q : Nat} (hlt : ∀ d ∈ cs, d < 32) (hc : c < 32) : aHd dl (cs ++ [c]) q = aHd dl cs q &&& (fBit (nI c) ^^^ (-1)) := by
  have hlt2 : ∀ d ∈ cs ++ [c], d < 32 := fun d hd => by
    rcases List.mem_append.mp hd with h | h
    · exact hlt d h
    · rw [List.mem_singleton] at h
      rw [h]
      exact hc
  refine bt_ext (fun i hi => ?_)
  rw [bt_aHd hlt2 hi, bt_and, bt_aHd hlt hi, bt_not hi, bt_fBit c hc i hi]
  simp only [List.mem_append, List.mem_singleton, Bool.decide_or, Bool.not_or]
  rw [Bool.and_assoc]
theorem aHd_other {dl : Nat → Int32} {cs : List Nat} {c q r : Nat} (hlt : ∀ d ∈ cs, d < 32) (hc : c < 32) (hd : aDl dl) (hr : r < 4) (hq : q < 4) (hb : bt (dl r) c = true) (hne : q ≠ r) : aHd dl (cs ++ [c]) q = aHd dl cs q := by
  rw [aMk_in hlt hc]
  refine bt_ext (fun i hi => ?_)
  rw [bt_and, bt_not hi, bt_fBit c hc i hi]
  by_cases e : i = c
  · subst e
    have : bt (dl q) i = false := by
      cases h : bt (dl q) i with
      | false => rfl
      | true => exact absurd (hd.1 q r i hq hr hc h hb) hne
    rw [bt_aHd hlt hi, this]
    simp
  · simp [e]
theorem aTn_new {x : aX} {cs : List Nat} {n : Nat} (h : (n + 1) % 4 ≠ 0) : aTn x cs (n + 1) = (aTn x cs n + 1) % 4 := by
  unfold aTn
  rw [show (n + 1) / 4 = n / 4 by omega, show (n + 1) % 4 = n % 4 + 1 by omega]
  omega
theorem aTn_0 {x : aX} {cs : List Nat} {n : Nat} (h : n % 4 = 0) (hl : x.2.2.2 < 4) : aTn x cs n = aLd x cs (n / 4) := by
  have := aLd_lt (x := x) (cs := cs) hl (n / 4)
  unfold aTn
  omega
theorem n_lt4 (q : Nat) (h : q < 4) : q = 0 ∨ q = 1 ∨ q = 2 ∨ q = 3 := by omega
def pre_X2_lay (q : Nat × aP × Nat) (as : List mV) (M : mM) : Prop := pl_X2 q.1 = true ∧ as = [.inr (some q.1), .inl (nI q.2.2)] ∧ RpS q.1 M q.2.1 ∧ aOkS q.2.1 ∧ q.2.1.2.2.2.2.length < 32 ∧ q.2.2 < 32 ∧ bt (aHd q.2.1.2.1 q.2.1.2.2.2.2 (aTn q.2.1.1 q.2.1.2.2.2.2 q.2.1.2.2.2.2.length)) q.2.2 = true
def post_X2_lay (q : Nat × aP × Nat) (_ : List mV) (M : mM) (M' : mM) : Prop := RpP q.1 M' q.2.1.1 q.2.1.2.1 q.2.1.2.2.1 q.2.1.2.2.2.1 (q.2.1.2.2.2.2 ++ [q.2.2]) ∧ FrP q.1 M M'
abbrev t_X2_lay : mG → mT := mRv pre_X2_lay post_X2_lay
theorem mo_X2_lay : mMn t_X2_lay := mRv_mono
theorem rv_X2_lay : mHasR yX2_lay 1 t_X2_lay := by
  intro g as M P hT hl
  obtain ⟨q, ⟨h1, h2, -⟩, -⟩ := hT
  exact ⟨_, _, h2, is_X2 g _ h1⟩
theorem mW1_c {M : mM} {c d k : Nat} {v : Int32} (h : d ≠ c) : mW1 M c k v d = M d := mUp_ne h
theorem mW1_k {M : mM} {c k j : Nat} {v : Int32} (h : j ≠ k) : mW1 M c k v c j = M c j := by
  unfold mW1
  rw [mUp_at]
  exact if_neg h
theorem mW1_s {M : mM} {c k : Nat} {v : Int32} : mW1 M c k v c k = v := by
  unfold mW1
  rw [mUp_at]
  exact if_pos rfl
theorem upd_s {f : Nat → Int32} {k : Nat} {v : Int32} : upd f k v k = v := if_pos rfl
theorem upd_n {f : Nat → Int32} {k j : Nat} {v : Int32} (h : j ≠ k) : upd f k v j = f j := if_neg h
def k_X2_lay : List (Nat × mI) := [(0, .aload_n 0, 1, 0, 0, []),
  (1, .getfield 37, 3, 0, 0, []),
  (4, .bipush 32, 2, 0, nI 32, []),
  (6, .if_icmp .ge 10, 3, 16, 0, []),
  (9, .iload_n 1, 1, 1, 0, []),
  (10, .invokestatic 99, 3, 0, 0, []),
  (13, .ifCond .ne 4, 3, 17, 0, []),
  (16, .return_, 1, 0, 0, []),
  (17, .aload_n 0, 1, 0, 0, []),
  (18, .invokevirtual 79, 3, 0, 0, []),
  (21, .istore_n 2, 1, 2, 0, []),
  (22, .aload_n 0, 1, 0, 0, []),
  (23, .getfield 37, 3, 0, 0, []),
  (26, .iconst 4, 1, 0, nI 4, []),
  (27, .irem, 1, 0, 0, []),
  (28, .ifCond .ne 15, 3, 43, 0, []),
  (31, .aload_n 0, 1, 0, 0, []),
  (32, .getfield 24, 3, 0, 0, []),
  (35, .iload_n 2, 1, 2, 0, []),
  (36, .aload_n 0, 1, 0, 0, []),
  (37, .getfield 67, 3, 0, 0, []),
  (40, .invokestatic 48, 3, 0, 0, []),
  (43, .aload_n 0, 1, 0, 0, []),
  (44, .getfield 18, 3, 0, 0, []),
  (47, .aload_n 0, 1, 0, 0, []),
  (48, .getfield 67, 3, 0, 0, []),
  (51, .aload_n 0, 1, 0, 0, []),
  (52, .getfield 18, 3, 0, 0, []),
  (55, .aload_n 0, 1, 0, 0, []),
  (56, .getfield 67, 3, 0, 0, []),
  (59, .invokestatic 56, 3, 0, 0, []),
  (62, .iload_n 1, 1, 1, 0, []),
  (63, .invokestatic 60, 3, 0, 0, []),
  (66, .iconst (-1), 1, 0, -1, []),
  (67, .ixor, 1, 0, 0, []),
  (68, .iand, 1, 0, 0, []),
  (69, .invokestatic 48, 3, 0, 0, []),
  (72, .aload_n 0, 1, 0, 0, []),
  (73, .getfield 21, 3, 0, 0, []),
  (76, .aload_n 0, 1, 0, 0, []),
  (77, .getfield 37, 3, 0, 0, []),
  (80, .iload_n 1, 1, 1, 0, []),
  (81, .invokestatic 48, 3, 0, 0, []),
  (84, .aload_n 0, 1, 0, 0, []),
  (85, .dup, 1, 0, 0, []),
  (86, .getfield 37, 3, 0, 0, []),
  (89, .iconst 1, 1, 0, nI 1, []),
  (90, .iadd, 1, 0, 0, []),
  (91, .putfield 37, 3, 0, 0, []),
  (94, .aload_n 0, 1, 0, 0, []),
  (95, .getfield 37, 3, 0, 0, []),
  (98, .iconst 4, 1, 0, nI 4, []),
  (99, .irem, 1, 0, 0, []),
  (100, .ifCond .eq 16, 3, 116, 0, []),
  (103, .aload_n 0, 1, 0, 0, []),
  (104, .aload_n 0, 1, 0, 0, []),
  (105, .getfield 67, 3, 0, 0, []),
  (108, .iconst 1, 1, 0, nI 1, []),
  (109, .iadd, 1, 0, 0, []),
  (110, .iconst 3, 1, 0, nI 3, []),
  (111, .iand, 1, 0, 0, []),
  (112, .putfield 67, 3, 0, 0, []),
  (115, .return_, 1, 0, 0, []),
  (116, .aload_n 0, 1, 0, 0, []),
  (117, .iload_n 2, 1, 2, 0, []),
  (118, .aload_n 0, 1, 0, 0, []),
  (119, .getfield 70, 3, 0, 0, []),
  (122, .aload_n 0, 1, 0, 0, []),
  (123, .getfield 73, 3, 0, 0, []),
  (126, .invokevirtual 103, 3, 0, 0, []),
  (129, .istore_n 3, 1, 3, 0, []),
  (130, .aload_n 0, 1, 0, 0, []),
  (131, .getfield 27, 3, 0, 0, []),
  (134, .iload_n 2, 1, 2, 0, []),
  (135, .iload_n 3, 1, 3, 0, []),
  (136, .invokestatic 48, 3, 0, 0, []),
  (139, .aload_n 0, 1, 0, 0, []),
  (140, .iload_n 3, 1, 3, 0, []),
  (141, .iconst 1, 1, 0, nI 1, []),
  (142, .iand, 1, 0, 0, []),
  (143, .iconst 1, 1, 0, nI 1, []),
  (144, .invokevirtual 106, 3, 0, 0, []),
  (147, .aload_n 0, 1, 0, 0, []),
  (148, .iload_n 3, 1, 3, 0, []),
  (149, .putfield 67, 3, 0, 0, []),
  (152, .return_, 1, 0, 0, [])]
theorem kk_X2_lay : (k_X2_lay.all fun e => mChk cX2_lay e.1 e.2) = true := by decide +kernel
def l_X2_lay : List (Nat × Nat × (mG → mT)) := [(3 * 99 + 1, 1, t_X7_isCard), (3 * 79, 0 + 1, t_X2_full), (3 * 48 + 1, 3, t_X7_set), (3 * 56 + 1, 2, t_X7_at), (3 * 60 + 1, 1, t_X7_bitOf), (3 * 103, 3 + 1, t_X2_winnerOf), (3 * 106, 2 + 1, t_X2_addWon)]
def f_X2_lay (g : mG) : mF := (mLk k_X2_lay, mLk fl_RX2, mLk (l_X2_lay.map fun e => (e.1, e.2.1, e.2.2 g)), mLk ([] : List (Nat × mV)), mLk ([] : List (Nat × mV)), none)
theorem m_X2_lay (g : mG) : mMono (f_X2_lay g) := mMonoL (g := g) (l := l_X2_lay) (List.forall_mem_cons.mpr ⟨mo_X7_isCard, List.forall_mem_cons.mpr ⟨mo_X2_full, List.forall_mem_cons.mpr ⟨mo_X7_set, List.forall_mem_cons.mpr ⟨mo_X7_at, List.forall_mem_cons.mpr ⟨mo_X7_bitOf, List.forall_mem_cons.mpr ⟨mo_X2_winnerOf, List.forall_mem_cons.mpr ⟨mo_X2_addWon, fun _ h => absurd h List.not_mem_nil⟩⟩⟩⟩⟩⟩⟩) rfl

theorem v_lay_0_16 (g : mG) (M : mM) (P : mP) (z : Int32)
    (h : ((nI 32) ≤ (M 16 7) → P none M) ∧ (¬ (nI 32) ≤ (M 16 7) → (¬ (fCard z) = 0 → ¬ (nI 4) = 0 ∧ ((¬ (nI 4) = 0 ∧ ((¬ ((M 16 7) - (M 16 7) / (nI 4) * (nI 4)) = 0 → mRun (mSx g) (f_X2_lay g) P (43, [some (.inr (some 16)), some (.inl z), some (.inl ((M 16 7) / (nI 4))), none], [], M)) ∧ (¬ (¬ ((M 16 7) - (M 16 7) / (nI 4) * (nI 4)) = 0) → let M1 : mM := mUp M 21 (aSet (M 21) 8 ((M 16 7) / (nI 4)) (M 16 8)); mRun (mSx g) (f_X2_lay g) P (43, [some (.inr (some 16)), some (.inl z), some (.inl ((M 16 7) / (nI 4))), none], [], M1)))))) ∧ (¬ (¬ (fCard z) = 0) → P none M))) :
    mRun (mSx g) (f_X2_lay g) P (0, [some (.inr (some 16)), some (.inl z), none, none], [], M) := mRun.vc (m_X2_lay g) [43] 22 h

set_option maxRecDepth 100000 in
theorem v_lay_43_16 (g : mG) (M : mM) (P : mP) (z i : Int32)
    (h : let M1 : mM := mUp M 19 (aSet (M 19) 4 (M 16 8) ((aAt (M 19) 4 (M 16 8)) &&& ((fBit z) ^^^ (-1)))); let M2 : mM := mUp M1 20 (aSet (M 20) 32 (M 16 7) z); let M3 : mM := mW1 M2 16 7 ((M 16 7) + (nI 1)); ¬ (nI 4) = 0 ∧ (((((M 16 7) + (nI 1)) - ((M 16 7) + (nI 1)) / (nI 4) * (nI 4)) = 0 → ∃ x4 : Nat × Nat × Int32 × Nat × List Nat × Nat, pre_X2_winnerOf x4 [.inr (some 16), .inl i, .inl (M 16 9), .inl (M 16 10)] M3 ∧ ∀ (r6 : Int32) (M5 : mM), post_X2_winnerOf x4 [.inr (some 16), .inl i, .inl (M 16 9), .inl (M 16 10)] M3 r6 M5 → (let M7 : mM := mUp M5 22 (aSet (M5 22) 8 i r6); let M8 : mM := mUp M7 23 (aSet (M5 23) 2 (r6 &&& (nI 1)) ((aAt (M5 23) 2 (r6 &&& (nI 1))) + (nI 1))); let M9 : mM := mW1 M8 16 8 r6; P none M9)) ∧ (¬ (((M 16 7) + (nI 1)) - ((M 16 7) + (nI 1)) / (nI 4) * (nI 4)) = 0 → let M10 : mM := mW1 M3 16 8 (((M 16 8) + (nI 1)) &&& (nI 3)); P none M10))) :
    mRun (mSx g) (f_X2_lay g) P (43, [some (.inr (some 16)), some (.inl z), some (.inl i), none], [], M) := mRun.vc (m_X2_lay g) [] 55 h

set_option maxHeartbeats 4000000 in
theorem lay_b_16 (g : mG) (M : mM) (P : mP) (x : aX) (dl : Nat → Int32) (a0 a1 : Int32) (cs : List Nat) (c : Nat) (hR : RpP 16 M x dl a0 a1 cs) (hL : ∀ i, 4 * i < cs.length + 1 → M 21 i = nI (aLd x cs i)) (hok : aOk x dl cs) (hn : cs.length < 32) (hc : c < 32) (hb : bt (aHd dl cs (aTn x cs cs.length)) c = true)
    (hP : ∀ M', RpP 16 M' x dl a0 a1 (cs ++ [c]) → FrP 16 M M' → P none M') : mRun (mSx g) (f_X2_lay g) P (43, [some (.inr (some 16)), some (.inl (nI c)), some (.inl (nI (cs.length / 4))), none], [], M) := by
  have hok2 := hok.add hn hc hb
  obtain ⟨⟨r1, r2, r3, r4, r5⟩, r6, r7, r8, r9, r10, r11, r12⟩ := hR
  have hlt := aOk.lt hok
  have hbc : bt (dl (aTn x cs cs.length)) c = true := (hok2.old).2.2.1
  obtain ⟨k1, k2, k3, k4, k5⟩ := hok
  generalize hnn : cs.length = n at *
  have hlen : (cs ++ [c]).length = n + 1 := by rw [List.length_append, List.length_singleton, hnn]
  have e0 : M 16 7 + nI 1 = nI (n + 1) := by rw [r1, nI_add]
  have e1 : M 16 7 + nI 1 - (M 16 7 + nI 1) / nI 4 * nI 4 = nI ((n + 1) % 4) := by rw [e0]; exact nI_mod4 (by omega)
  refine v_lay_43_16 g M P (nI c) (nI (n / 4)) ?_
  intro M1 M2 M3
  have q7 : M3 16 7 = nI (n + 1) := e0
  have q9 : M3 16 9 = x.1 := r3
  have q10 : M3 16 10 = nI x.2.1 := r4
  have q11 : M3 16 11 = x.2.2.1 := r5
  have qpl : ∀ j, j < n + 1 → M3 20 j = nI (aC (cs ++ [c]) j) := fun j hj => by
    show aSet (M 20) 32 (M 16 7) (nI c) j = _
    rw [r1, aSet_in hn (by decide)]
    by_cases e : j = n
    · subst e
      rw [upd_s, ← hnn, aC_new]
    · rw [upd_n e, aC_old (by omega)]
      exact r6 j (by omega)
  have qdl : ∀ q, q < 4 → M3 18 q = dl q := r7
  have qhd : ∀ q, q < 4 → M3 19 q = aHd dl (cs ++ [c]) q := fun q hq => by
    show aSet (M 19) 4 (M 16 8) (aAt (M 19) 4 (M 16 8) &&& (fBit (nI c) ^^^ (-1))) q = _
    rw [r2, aAt_in aTn_lt (by decide), aSet_in aTn_lt (by decide)]
    by_cases e : q = aTn x cs n
    · rw [e, upd_s, aMk_in hlt hc]
      exact congrArg (fun z => z &&& (fBit (nI c) ^^^ (-1))) (r8 _ aTn_lt)
    · rw [upd_n e, aHd_other hlt hc k4 aTn_lt hq hbc e]
      exact r8 q hq
  have qld : ∀ i, 4 * i < n + 1 → M3 21 i = nI (aLd x (cs ++ [c]) i) := fun i hi => by
    rw [aLd_old (by omega)]
    exact hL i hi
  have qfr : FrP 16 M M3 := fun d hd => by
    show mUp (mUp (mUp M 19 _) 20 _) 16 _ d = M d
    rw [mUp_ne (by omega), mUp_ne (by omega), mUp_ne (by omega)]
  have qfr' : ∀ d, d ≠ 16 → d ≠ 19 → d ≠ 20 → M3 d = M d := fun d h1 h2 h3 => by
    show mUp (mUp (mUp M 19 _) 20 _) 16 _ d = M d
    rw [mUp_ne h1, mUp_ne h3, mUp_ne h2]
  rw [e1]
  refine ⟨n4, fun hz => ?_, fun hz => ?_⟩
  · have hz' : (n + 1) % 4 = 0 := (nI_eq (by omega) (by decide)).mp hz
    refine ⟨(16, n / 4, x.1, x.2.1, cs ++ [c], aLd x cs (n / 4)), ⟨rfl, by rw [r3, r4], by show n / 4 < 8; omega, k1, by show 4 * (n / 4) + 4 ≤ (cs ++ [c]).length; omega, aLd_lt k2 _, fun j hj => ⟨qpl _ (by show 4 * (n / 4) + j < n + 1; omega), aOk.lt hok2 _ (aC_in (by show 4 * (n / 4) + j < (cs ++ [c]).length; omega))⟩, ?_⟩, fun r M5 hp => ?_⟩
    · exact (qld _ (by show 4 * (n / 4) < n + 1; omega)).trans (by rw [aLd_old (by show 4 * (n / 4) ≤ cs.length; omega)])
    · obtain ⟨hv, rfl⟩ := hp
      have hr : r = nI (aLd x (cs ++ [c]) (n / 4 + 1)) := by
        rw [hv, aLd, aLd_old (by omega)]
      have hw4 : aLd x (cs ++ [c]) (n / 4 + 1) < 4 := aLd_lt k2 _
      have hside : r &&& nI 1 = nI (aLd x (cs ++ [c]) (n / 4 + 1) % 2) := by rw [hr]; exact nI_and1 _ (by omega)
      intro M7 M8 M9
      have w0 : M 23 0 = nI (aWn x cs 0 (n / 4)) + a0 := r11
      have w1 : M 23 1 = nI (aWn x cs 1 (n / 4)) + a1 := r12
      have hwon : ∀ s, s < 2 → M9 23 s = if aLd x (cs ++ [c]) (n / 4 + 1) % 2 = s then M 23 s + nI 1 else M 23 s := fun s hs => by
        show aSet (M 23) 2 (r &&& nI 1) (aAt (M 23) 2 (r &&& nI 1) + nI 1) s = _
        rw [hside, aAt_in (by omega) (by decide), aSet_in (by omega) (by decide)]
        by_cases e : s = aLd x (cs ++ [c]) (n / 4 + 1) % 2
        · subst e
          rw [upd_s, if_pos rfl]
        · rw [upd_n e, if_neg (fun z => e z.symm)]
      have add1 : ∀ (k : Nat) (z : Int32), nI k + z + nI 1 = nI (k + 1) + z := fun k z => by
        rw [← nI_add, Int32.add_assoc, Int32.add_comm z, ← Int32.add_assoc]
      have f9 : ∀ d, d ≠ 16 → d ≠ 22 → d ≠ 23 → M9 d = M3 d := fun d h1 h2 h3 => by
        show mW1 (mUp (mUp M3 22 _) 23 _) 16 8 _ d = _
        rw [mW1_c h1, mUp_ne h3, mUp_ne h2]
      have g9 : ∀ k, k ≠ 8 → M9 16 k = M3 16 k := fun k h => by
        show mW1 (mUp (mUp M3 22 _) 23 _) 16 8 _ 16 k = _
        rw [mW1_k h, mUp_ne (by decide), mUp_ne (by decide)]
      have t9 : M9 16 8 = r := mW1_s
      have w9 : M9 22 = aSet (M3 22) 8 (nI (n / 4)) r := by
        show mW1 (mUp (mUp M3 22 _) 23 _) 16 8 _ 22 = _
        rw [mW1_c (by decide), mUp_ne (by decide), mUp_at]
      refine hP M9 ⟨⟨by rw [hlen]; exact (g9 7 (by decide)).trans q7, ?_, (g9 9 (by decide)).trans q9, (g9 10 (by decide)).trans q10, (g9 11 (by decide)).trans q11⟩, by rw [hlen]; exact fun j hj => (congrFun (f9 20 (by decide) (by decide) (by decide)) j).trans (qpl j hj), fun q hq => (congrFun (f9 18 (by decide) (by decide) (by decide)) q).trans (qdl q hq), fun q hq => (congrFun (f9 19 (by decide) (by decide) (by decide)) q).trans (qhd q hq), by rw [hlen]; exact fun i hi => (congrFun (f9 21 (by decide) (by decide) (by decide)) i).trans (qld i hi), ?_, ?_, ?_⟩ ?_
      · rw [t9, hr, hlen, aTn_0 hz' k2, show (n + 1) / 4 = n / 4 + 1 by omega]
      · intro i hi
        rw [hlen] at hi
        rw [show M9 (16 + 6) = M9 22 from rfl, w9, aSet_in (by omega) (by decide)]
        by_cases e : i = n / 4
        · subst e
          rw [upd_s, hr]
        · rw [upd_n e, aLd_old (by omega)]
          exact r10 i (by omega)
      · rw [hlen, show (n + 1) / 4 = n / 4 + 1 by omega, show M9 (16 + 7) 0 = M9 23 0 from rfl, hwon 0 (by omega), aWn, aWn_old (by omega), w0]
        split
        · exact add1 _ _
        · rfl
      · rw [hlen, show (n + 1) / 4 = n / 4 + 1 by omega, show M9 (16 + 7) 1 = M9 23 1 from rfl, hwon 1 (by omega), aWn, aWn_old (by omega), w1]
        split
        · exact add1 _ _
        · rfl
      · intro d hd
        rw [f9 d (by omega) (by omega) (by omega)]
        exact qfr d hd
  · have hz' : (n + 1) % 4 ≠ 0 := fun z => hz (by rw [z]; rfl)
    intro M10
    have f10 : ∀ d, d ≠ 16 → M10 d = M3 d := fun d h1 => mW1_c h1
    have g10 : ∀ k, k ≠ 8 → M10 16 k = M3 16 k := fun k h => mW1_k h
    have t10 : M10 16 8 = (M 16 8 + nI 1) &&& nI 3 := mW1_s
    have w10 : M3 22 = M 22 := qfr' 22 (by decide) (by decide) (by decide)
    have v10 : M3 23 = M 23 := qfr' 23 (by decide) (by decide) (by decide)
    refine hP M10 ⟨⟨by rw [hlen]; exact (g10 7 (by decide)).trans q7, ?_, (g10 9 (by decide)).trans q9, (g10 10 (by decide)).trans q10, (g10 11 (by decide)).trans q11⟩, by rw [hlen]; exact fun j hj => (congrFun (f10 20 (by decide)) j).trans (qpl j hj), fun q hq => (congrFun (f10 18 (by decide)) q).trans (qdl q hq), fun q hq => (congrFun (f10 19 (by decide)) q).trans (qhd q hq), by rw [hlen]; exact fun i hi => (congrFun (f10 21 (by decide)) i).trans (qld i hi), ?_, ?_, ?_⟩ ?_
    · rw [t10, hlen, aTn_new hz', aTn_old (by omega), r2, nI_add]
      exact nI_and3 _ (by have := aTn_lt (x := x) (cs := cs) (j := n); omega)
    · intro i hi
      rw [hlen] at hi
      rw [show M10 (16 + 6) = M3 22 from f10 22 (by decide), w10, aLd_old (by omega)]
      exact r10 i (by omega)
    · rw [hlen, show (n + 1) / 4 = n / 4 by omega, show M10 (16 + 7) = M3 23 from f10 23 (by decide), v10, aWn_old (by omega)]
      exact r11
    · rw [hlen, show (n + 1) / 4 = n / 4 by omega, show M10 (16 + 7) = M3 23 from f10 23 (by decide), v10, aWn_old (by omega)]
      exact r12
    · intro d hd
      rw [f10 d (by omega)]
      exact qfr d hd
theorem lay_run_16 (g : mG) (M : mM) (P : mP) (x : aX) (dl : Nat → Int32) (a0 a1 : Int32) (cs : List Nat) (c : Nat) (hR : RpP 16 M x dl a0 a1 cs) (hok : aOk x dl cs) (hn : cs.length < 32) (hc : c < 32) (hb : bt (aHd dl cs (aTn x cs cs.length)) c = true)
    (hP : ∀ M', RpP 16 M' x dl a0 a1 (cs ++ [c]) → FrP 16 M M' → P none M') : mRun (mSx g) (f_X2_lay g) P (0, [some (.inr (some 16)), some (.inl (nI c)), none, none], [], M) := by
  have hR0 := hR
  obtain ⟨⟨r1, r2, r3, r4, r5⟩, r6, r7, r8, r9, r10, r11, r12⟩ := hR
  have hcard : ¬ fCard (nI c) = 0 := by
    unfold fCard
    rw [mb_0]
    exact fun z => z ⟨nI_pos' (by omega), nI_lt hc (by decide)⟩
  refine v_lay_0_16 g M P (nI c) ⟨fun z => absurd z (by rw [r1]; exact nI_ge hn (by decide)), fun _ => ⟨fun _ => ⟨n4, n4, ?_⟩, fun z => absurd hcard z⟩⟩
  rw [r1, nI_mod4 (by omega), nI_div4 (by omega)]
  refine ⟨fun hz => ?_, fun hz => ?_⟩
  · have hz' : cs.length % 4 ≠ 0 := fun z => hz (by rw [z]; rfl)
    exact lay_b_16 g M P x dl a0 a1 cs c hR0 (fun i hi => r9 i (by omega)) hok hn hc hb hP
  · have hz' : cs.length % 4 = 0 := (nI_eq (by omega) (by decide)).mp (Classical.not_not.mp hz)
    intro M1
    have hld : ∀ i, 4 * i < cs.length + 1 → M1 21 i = nI (aLd x cs i) := fun i hi => by
      show aSet (M 21) 8 (nI (cs.length / 4)) (M 16 8) i = _
      rw [aSet_in (by omega) (by decide)]
      by_cases e : i = cs.length / 4
      · subst e
        rw [upd_s, r2, aTn_0 hz' hok.2.1]
      · rw [upd_n e]
        exact r9 i (by omega)
    refine lay_b_16 g M1 P x dl a0 a1 cs c ⟨⟨r1, r2, r3, r4, r5⟩, r6, r7, r8, fun i hi => hld i (by omega), r10, r11, r12⟩ hld hok hn hc hb (fun M' h1 h2 => hP M' h1 (fun d hd => ?_))
    rw [h2 d hd]
    exact mUp_ne (by omega)
theorem v_lay_0_29 (g : mG) (M : mM) (P : mP) (z : Int32)
    (h : ((nI 32) ≤ (M 29 7) → P none M) ∧ (¬ (nI 32) ≤ (M 29 7) → (¬ (fCard z) = 0 → ¬ (nI 4) = 0 ∧ ((¬ (nI 4) = 0 ∧ ((¬ ((M 29 7) - (M 29 7) / (nI 4) * (nI 4)) = 0 → mRun (mSx g) (f_X2_lay g) P (43, [some (.inr (some 29)), some (.inl z), some (.inl ((M 29 7) / (nI 4))), none], [], M)) ∧ (¬ (¬ ((M 29 7) - (M 29 7) / (nI 4) * (nI 4)) = 0) → let M1 : mM := mUp M 34 (aSet (M 34) 8 ((M 29 7) / (nI 4)) (M 29 8)); mRun (mSx g) (f_X2_lay g) P (43, [some (.inr (some 29)), some (.inl z), some (.inl ((M 29 7) / (nI 4))), none], [], M1)))))) ∧ (¬ (¬ (fCard z) = 0) → P none M))) :
    mRun (mSx g) (f_X2_lay g) P (0, [some (.inr (some 29)), some (.inl z), none, none], [], M) := mRun.vc (m_X2_lay g) [43] 22 h

set_option maxRecDepth 100000 in
theorem v_lay_43_29 (g : mG) (M : mM) (P : mP) (z i : Int32)
    (h : let M1 : mM := mUp M 32 (aSet (M 32) 4 (M 29 8) ((aAt (M 32) 4 (M 29 8)) &&& ((fBit z) ^^^ (-1)))); let M2 : mM := mUp M1 33 (aSet (M 33) 32 (M 29 7) z); let M3 : mM := mW1 M2 29 7 ((M 29 7) + (nI 1)); ¬ (nI 4) = 0 ∧ (((((M 29 7) + (nI 1)) - ((M 29 7) + (nI 1)) / (nI 4) * (nI 4)) = 0 → ∃ x4 : Nat × Nat × Int32 × Nat × List Nat × Nat, pre_X2_winnerOf x4 [.inr (some 29), .inl i, .inl (M 29 9), .inl (M 29 10)] M3 ∧ ∀ (r6 : Int32) (M5 : mM), post_X2_winnerOf x4 [.inr (some 29), .inl i, .inl (M 29 9), .inl (M 29 10)] M3 r6 M5 → (let M7 : mM := mUp M5 35 (aSet (M5 35) 8 i r6); let M8 : mM := mUp M7 36 (aSet (M5 36) 2 (r6 &&& (nI 1)) ((aAt (M5 36) 2 (r6 &&& (nI 1))) + (nI 1))); let M9 : mM := mW1 M8 29 8 r6; P none M9)) ∧ (¬ (((M 29 7) + (nI 1)) - ((M 29 7) + (nI 1)) / (nI 4) * (nI 4)) = 0 → let M10 : mM := mW1 M3 29 8 (((M 29 8) + (nI 1)) &&& (nI 3)); P none M10))) :
    mRun (mSx g) (f_X2_lay g) P (43, [some (.inr (some 29)), some (.inl z), some (.inl i), none], [], M) := mRun.vc (m_X2_lay g) [] 55 h

set_option maxHeartbeats 4000000 in
theorem lay_b_29 (g : mG) (M : mM) (P : mP) (x : aX) (dl : Nat → Int32) (a0 a1 : Int32) (cs : List Nat) (c : Nat) (hR : RpP 29 M x dl a0 a1 cs) (hL : ∀ i, 4 * i < cs.length + 1 → M 34 i = nI (aLd x cs i)) (hok : aOk x dl cs) (hn : cs.length < 32) (hc : c < 32) (hb : bt (aHd dl cs (aTn x cs cs.length)) c = true)
    (hP : ∀ M', RpP 29 M' x dl a0 a1 (cs ++ [c]) → FrP 29 M M' → P none M') : mRun (mSx g) (f_X2_lay g) P (43, [some (.inr (some 29)), some (.inl (nI c)), some (.inl (nI (cs.length / 4))), none], [], M) := by
  have hok2 := hok.add hn hc hb
  obtain ⟨⟨r1, r2, r3, r4, r5⟩, r6, r7, r8, r9, r10, r11, r12⟩ := hR
  have hlt := aOk.lt hok
  have hbc : bt (dl (aTn x cs cs.length)) c = true := (hok2.old).2.2.1
  obtain ⟨k1, k2, k3, k4, k5⟩ := hok
  generalize hnn : cs.length = n at *
  have hlen : (cs ++ [c]).length = n + 1 := by rw [List.length_append, List.length_singleton, hnn]
  have e0 : M 29 7 + nI 1 = nI (n + 1) := by rw [r1, nI_add]
  have e1 : M 29 7 + nI 1 - (M 29 7 + nI 1) / nI 4 * nI 4 = nI ((n + 1) % 4) := by rw [e0]; exact nI_mod4 (by omega)
  refine v_lay_43_29 g M P (nI c) (nI (n / 4)) ?_
  intro M1 M2 M3
  have q7 : M3 29 7 = nI (n + 1) := e0
  have q9 : M3 29 9 = x.1 := r3
  have q10 : M3 29 10 = nI x.2.1 := r4
  have q11 : M3 29 11 = x.2.2.1 := r5
  have qpl : ∀ j, j < n + 1 → M3 33 j = nI (aC (cs ++ [c]) j) := fun j hj => by
    show aSet (M 33) 32 (M 29 7) (nI c) j = _
    rw [r1, aSet_in hn (by decide)]
    by_cases e : j = n
    · subst e
      rw [upd_s, ← hnn, aC_new]
    · rw [upd_n e, aC_old (by omega)]
      exact r6 j (by omega)
  have qdl : ∀ q, q < 4 → M3 31 q = dl q := r7
  have qhd : ∀ q, q < 4 → M3 32 q = aHd dl (cs ++ [c]) q := fun q hq => by
    show aSet (M 32) 4 (M 29 8) (aAt (M 32) 4 (M 29 8) &&& (fBit (nI c) ^^^ (-1))) q = _
    rw [r2, aAt_in aTn_lt (by decide), aSet_in aTn_lt (by decide)]
    by_cases e : q = aTn x cs n
    · rw [e, upd_s, aMk_in hlt hc]
      exact congrArg (fun z => z &&& (fBit (nI c) ^^^ (-1))) (r8 _ aTn_lt)
    · rw [upd_n e, aHd_other hlt hc k4 aTn_lt hq hbc e]
      exact r8 q hq
  have qld : ∀ i, 4 * i < n + 1 → M3 34 i = nI (aLd x (cs ++ [c]) i) := fun i hi => by
    rw [aLd_old (by omega)]
    exact hL i hi
  have qfr : FrP 29 M M3 := fun d hd => by
    show mUp (mUp (mUp M 32 _) 33 _) 29 _ d = M d
    rw [mUp_ne (by omega), mUp_ne (by omega), mUp_ne (by omega)]
  have qfr' : ∀ d, d ≠ 29 → d ≠ 32 → d ≠ 33 → M3 d = M d := fun d h1 h2 h3 => by
    show mUp (mUp (mUp M 32 _) 33 _) 29 _ d = M d
    rw [mUp_ne h1, mUp_ne h3, mUp_ne h2]
  rw [e1]
  refine ⟨n4, fun hz => ?_, fun hz => ?_⟩
  · have hz' : (n + 1) % 4 = 0 := (nI_eq (by omega) (by decide)).mp hz
    refine ⟨(29, n / 4, x.1, x.2.1, cs ++ [c], aLd x cs (n / 4)), ⟨rfl, by rw [r3, r4], by show n / 4 < 8; omega, k1, by show 4 * (n / 4) + 4 ≤ (cs ++ [c]).length; omega, aLd_lt k2 _, fun j hj => ⟨qpl _ (by show 4 * (n / 4) + j < n + 1; omega), aOk.lt hok2 _ (aC_in (by show 4 * (n / 4) + j < (cs ++ [c]).length; omega))⟩, ?_⟩, fun r M5 hp => ?_⟩
    · exact (qld _ (by show 4 * (n / 4) < n + 1; omega)).trans (by rw [aLd_old (by show 4 * (n / 4) ≤ cs.length; omega)])
    · obtain ⟨hv, rfl⟩ := hp
      have hr : r = nI (aLd x (cs ++ [c]) (n / 4 + 1)) := by
        rw [hv, aLd, aLd_old (by omega)]
      have hw4 : aLd x (cs ++ [c]) (n / 4 + 1) < 4 := aLd_lt k2 _
      have hside : r &&& nI 1 = nI (aLd x (cs ++ [c]) (n / 4 + 1) % 2) := by rw [hr]; exact nI_and1 _ (by omega)
      intro M7 M8 M9
      have w0 : M 36 0 = nI (aWn x cs 0 (n / 4)) + a0 := r11
      have w1 : M 36 1 = nI (aWn x cs 1 (n / 4)) + a1 := r12
      have hwon : ∀ s, s < 2 → M9 36 s = if aLd x (cs ++ [c]) (n / 4 + 1) % 2 = s then M 36 s + nI 1 else M 36 s := fun s hs => by
        show aSet (M 36) 2 (r &&& nI 1) (aAt (M 36) 2 (r &&& nI 1) + nI 1) s = _
        rw [hside, aAt_in (by omega) (by decide), aSet_in (by omega) (by decide)]
        by_cases e : s = aLd x (cs ++ [c]) (n / 4 + 1) % 2
        · subst e
          rw [upd_s, if_pos rfl]
        · rw [upd_n e, if_neg (fun z => e z.symm)]
      have add1 : ∀ (k : Nat) (z : Int32), nI k + z + nI 1 = nI (k + 1) + z := fun k z => by
        rw [← nI_add, Int32.add_assoc, Int32.add_comm z, ← Int32.add_assoc]
      have f9 : ∀ d, d ≠ 29 → d ≠ 35 → d ≠ 36 → M9 d = M3 d := fun d h1 h2 h3 => by
        show mW1 (mUp (mUp M3 35 _) 36 _) 29 8 _ d = _
        rw [mW1_c h1, mUp_ne h3, mUp_ne h2]
      have g9 : ∀ k, k ≠ 8 → M9 29 k = M3 29 k := fun k h => by
        show mW1 (mUp (mUp M3 35 _) 36 _) 29 8 _ 29 k = _
        rw [mW1_k h, mUp_ne (by decide), mUp_ne (by decide)]
      have t9 : M9 29 8 = r := mW1_s
      have w9 : M9 35 = aSet (M3 35) 8 (nI (n / 4)) r := by
        show mW1 (mUp (mUp M3 35 _) 36 _) 29 8 _ 35 = _
        rw [mW1_c (by decide), mUp_ne (by decide), mUp_at]
      refine hP M9 ⟨⟨by rw [hlen]; exact (g9 7 (by decide)).trans q7, ?_, (g9 9 (by decide)).trans q9, (g9 10 (by decide)).trans q10, (g9 11 (by decide)).trans q11⟩, by rw [hlen]; exact fun j hj => (congrFun (f9 33 (by decide) (by decide) (by decide)) j).trans (qpl j hj), fun q hq => (congrFun (f9 31 (by decide) (by decide) (by decide)) q).trans (qdl q hq), fun q hq => (congrFun (f9 32 (by decide) (by decide) (by decide)) q).trans (qhd q hq), by rw [hlen]; exact fun i hi => (congrFun (f9 34 (by decide) (by decide) (by decide)) i).trans (qld i hi), ?_, ?_, ?_⟩ ?_
      · rw [t9, hr, hlen, aTn_0 hz' k2, show (n + 1) / 4 = n / 4 + 1 by omega]
      · intro i hi
        rw [hlen] at hi
        rw [show M9 (29 + 6) = M9 35 from rfl, w9, aSet_in (by omega) (by decide)]
        by_cases e : i = n / 4
        · subst e
          rw [upd_s, hr]
        · rw [upd_n e, aLd_old (by omega)]
          exact r10 i (by omega)
      · rw [hlen, show (n + 1) / 4 = n / 4 + 1 by omega, show M9 (29 + 7) 0 = M9 36 0 from rfl, hwon 0 (by omega), aWn, aWn_old (by omega), w0]
        split
        · exact add1 _ _
        · rfl
      · rw [hlen, show (n + 1) / 4 = n / 4 + 1 by omega, show M9 (29 + 7) 1 = M9 36 1 from rfl, hwon 1 (by omega), aWn, aWn_old (by omega), w1]
        split
        · exact add1 _ _
        · rfl
      · intro d hd
        rw [f9 d (by omega) (by omega) (by omega)]
        exact qfr d hd
  · have hz' : (n + 1) % 4 ≠ 0 := fun z => hz (by rw [z]; rfl)
    intro M10
    have f10 : ∀ d, d ≠ 29 → M10 d = M3 d := fun d h1 => mW1_c h1
    have g10 : ∀ k, k ≠ 8 → M10 29 k = M3 29 k := fun k h => mW1_k h
    have t10 : M10 29 8 = (M 29 8 + nI 1) &&& nI 3 := mW1_s
    have w10 : M3 35 = M 35 := qfr' 35 (by decide) (by decide) (by decide)
    have v10 : M3 36 = M 36 := qfr' 36 (by decide) (by decide) (by decide)
    refine hP M10 ⟨⟨by rw [hlen]; exact (g10 7 (by decide)).trans q7, ?_, (g10 9 (by decide)).trans q9, (g10 10 (by decide)).trans q10, (g10 11 (by decide)).trans q11⟩, by rw [hlen]; exact fun j hj => (congrFun (f10 33 (by decide)) j).trans (qpl j hj), fun q hq => (congrFun (f10 31 (by decide)) q).trans (qdl q hq), fun q hq => (congrFun (f10 32 (by decide)) q).trans (qhd q hq), by rw [hlen]; exact fun i hi => (congrFun (f10 34 (by decide)) i).trans (qld i hi), ?_, ?_, ?_⟩ ?_
    · rw [t10, hlen, aTn_new hz', aTn_old (by omega), r2, nI_add]
      exact nI_and3 _ (by have := aTn_lt (x := x) (cs := cs) (j := n); omega)
    · intro i hi
      rw [hlen] at hi
      rw [show M10 (29 + 6) = M3 35 from f10 35 (by decide), w10, aLd_old (by omega)]
      exact r10 i (by omega)
    · rw [hlen, show (n + 1) / 4 = n / 4 by omega, show M10 (29 + 7) = M3 36 from f10 36 (by decide), v10, aWn_old (by omega)]
      exact r11
    · rw [hlen, show (n + 1) / 4 = n / 4 by omega, show M10 (29 + 7) = M3 36 from f10 36 (by decide), v10, aWn_old (by omega)]
      exact r12
    · intro d hd
      rw [f10 d (by omega)]
      exact qfr d hd
theorem lay_run_29 (g : mG) (M : mM) (P : mP) (x : aX) (dl : Nat → Int32) (a0 a1 : Int32) (cs : List Nat) (c : Nat) (hR : RpP 29 M x dl a0 a1 cs) (hok : aOk x dl cs) (hn : cs.length < 32) (hc : c < 32) (hb : bt (aHd dl cs (aTn x cs cs.length)) c = true)
    (hP : ∀ M', RpP 29 M' x dl a0 a1 (cs ++ [c]) → FrP 29 M M' → P none M') : mRun (mSx g) (f_X2_lay g) P (0, [some (.inr (some 29)), some (.inl (nI c)), none, none], [], M) := by
  have hR0 := hR
  obtain ⟨⟨r1, r2, r3, r4, r5⟩, r6, r7, r8, r9, r10, r11, r12⟩ := hR
  have hcard : ¬ fCard (nI c) = 0 := by
    unfold fCard
    rw [mb_0]
    exact fun z => z ⟨nI_pos' (by omega), nI_lt hc (by decide)⟩
  refine v_lay_0_29 g M P (nI c) ⟨fun z => absurd z (by rw [r1]; exact nI_ge hn (by decide)), fun _ => ⟨fun _ => ⟨n4, n4, ?_⟩, fun z => absurd hcard z⟩⟩
  rw [r1, nI_mod4 (by omega), nI_div4 (by omega)]
  refine ⟨fun hz => ?_, fun hz => ?_⟩
  · have hz' : cs.length % 4 ≠ 0 := fun z => hz (by rw [z]; rfl)
    exact lay_b_29 g M P x dl a0 a1 cs c hR0 (fun i hi => r9 i (by omega)) hok hn hc hb hP
  · have hz' : cs.length % 4 = 0 := (nI_eq (by omega) (by decide)).mp (Classical.not_not.mp hz)
    intro M1
    have hld : ∀ i, 4 * i < cs.length + 1 → M1 34 i = nI (aLd x cs i) := fun i hi => by
      show aSet (M 34) 8 (nI (cs.length / 4)) (M 29 8) i = _
      rw [aSet_in (by omega) (by decide)]
      by_cases e : i = cs.length / 4
      · subst e
        rw [upd_s, r2, aTn_0 hz' hok.2.1]
      · rw [upd_n e]
        exact r9 i (by omega)
    refine lay_b_29 g M1 P x dl a0 a1 cs c ⟨⟨r1, r2, r3, r4, r5⟩, r6, r7, r8, fun i hi => hld i (by omega), r10, r11, r12⟩ hld hok hn hc hb (fun M' h1 h2 => hP M' h1 (fun d hd => ?_))
    rw [h2 d hd]
    exact mUp_ne (by omega)
theorem run_X2_lay : mRunOf 4 t_X2_lay f_X2_lay := fun g as M P hT => by
  obtain ⟨⟨p, ⟨x, dl, a0, a1, cs⟩, c⟩, ⟨h1, rfl, h3, h4, h5, h6, h7⟩, hP⟩ := hT
  refine ⟨Nat.le_of_ble_eq_true rfl, ?_⟩
  dsimp only at h1 h3 h4 h5 h6 h7
  rcases pl_two h1 with rfl | rfl
  · exact lay_run_16 g M P x dl a0 a1 cs c h3 h4 h5 h6 h7 (fun M' h8 h9 => hP M' ⟨h8, h9⟩)
  · exact lay_run_29 g M P x dl a0 a1 cs c h3 h4 h5 h6 h7 (fun M' h8 h9 => hP M' ⟨h8, h9⟩)
theorem ok_X2_lay : mOK yX2_lay cX2_lay 4 (none) 3 t_X2_lay := mOK.of f_X2_lay (by decide) (fun _ => rfl) (fun g => mCodeOK kk_X2_lay) (fun g => mFldL fk_RX2 rfl) (fun g idx v h => by cases h) (fun g idx v h => by cases h) (mCalL (l := l_X2_lay) (List.forall_mem_cons.mpr ⟨mSite.SN (idx := 99) ok_X7_isCard (by decide) (by decide) wc_X7_isCard wm_RX2_99 wt_X7_isCard wn_RX7 wd_X7_isCard, List.forall_mem_cons.mpr ⟨mSite.V (idx := 79) ok_X2_full (by decide) (by decide) rv_X2_full wc_X2_full wk_RX2_79 wi_X2_full wl_X2_full wn_RX2 wd_X2_full, List.forall_mem_cons.mpr ⟨mSite.SN (idx := 48) ok_X7_set (by decide) (by decide) wc_X7_set wm_RX2_48 wt_X7_set wn_RX7 wd_X7_set, List.forall_mem_cons.mpr ⟨mSite.SN (idx := 56) ok_X7_at (by decide) (by decide) wc_X7_at wm_RX2_56 wt_X7_at wn_RX7 wd_X7_at, List.forall_mem_cons.mpr ⟨mSite.SN (idx := 60) ok_X7_bitOf (by decide) (by decide) wc_X7_bitOf wm_RX2_60 wt_X7_bitOf wn_RX7 wd_X7_bitOf, List.forall_mem_cons.mpr ⟨mSite.V (idx := 103) ok_X2_winnerOf (by decide) (by decide) rv_X2_winnerOf wc_X2_winnerOf wk_RX2_103 wi_X2_winnerOf wl_X2_winnerOf wn_RX2 wd_X2_winnerOf, List.forall_mem_cons.mpr ⟨mSite.V (idx := 106) ok_X2_addWon (by decide) (by decide) rv_X2_addWon wc_X2_addWon wk_RX2_106 wi_X2_addWon wl_X2_addWon wn_RX2 wd_X2_addWon, fun _ h => absurd h List.not_mem_nil⟩⟩⟩⟩⟩⟩⟩) (fun _ => rfl)) run_X2_lay

