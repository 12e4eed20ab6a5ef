/-! ===== THE REFERENCE: what may be played ===== -/
def RmP (M : mM) (x : aX) (dl : Nat → Int32) (a0 a1 : Int32) (cs : List Nat) : Prop :=
  M 50 19 = nI (cs.length / 4) ∧ (∀ q, q < 4 → M 58 q = aHd dl cs q) ∧ (∀ q, q < 4 → M 59 q = dl q) ∧ (∀ i, i < 8 → M 61 i = nI (min 4 (cs.length - 4 * i))) ∧ (∀ i j, j < 4 → 4 * i + j < cs.length → M (65 + i) j = nI (aC cs (4 * i + j))) ∧
  (∀ i, 4 * i < cs.length → M 60 i = nI (aLd x cs i)) ∧ (∀ i, i < 8 → M 62 i = if i < cs.length / 4 then nI (aLd x cs (i + 1)) else -1) ∧ M 63 0 = nI (aWn x cs 0 (cs.length / 4)) + a0 ∧ M 63 1 = nI (aWn x cs 1 (cs.length / 4)) + a1
/-- .. in the play -/
def RmQ (M : mM) (x : aX) (dl : Nat → Int32) (cs : List Nat) : Prop := RmP M x dl 0 0 cs ∧ (M 50 6 = nI (aTn x cs cs.length) ∧ M 50 9 = x.1 ∧ M 50 14 = nI x.2.1 ∧ M 50 15 = x.2.2.1) ∧ (cs.length < 32 → M 60 (cs.length / 4) = nI (aLd x cs (cs.length / 4))) ∧ (∃ u, u < 5 ∧ x.1 = nI u) ∧ ∃ r, r < 3 ∧ x.2.2.1 = nI r
def FrQ (M M' : mM) : Prop := (∀ c, ¬ (c = 50 ∨ c = 58 ∨ (60 ≤ c ∧ c ≤ 72)) → M' c = M c) ∧ ∀ k, k ≠ 6 → k ≠ 19 → M' 50 k = M 50 k
theorem FrQ.refl {M : mM} : FrQ M M := ⟨fun _ _ => rfl, fun _ _ _ => rfl⟩
theorem FrQ.trans {M M1 M2 : mM} (h : FrQ M M1) (k : FrQ M1 M2) : FrQ M M2 := ⟨fun c hc => (k.1 c hc).trans (h.1 c hc), fun c h1 h2 => (k.2 c h1 h2).trans (h.2 c h1 h2)⟩
theorem FrQ.M {M M' : mM} (h : FrQ M M') : FrM M M' := fun c hc => h.1 c (by omega)
theorem fOfS_eq {s : Int32} {u : Nat} (h : u < 5) : fOfS s (nI u) = s &&& fSuit (nI u) := by
  unfold fOfS fSuit
  rcases (by omega : u = 4 ∨ u < 4) with rfl | h4
  · rw [if_pos rfl, if_neg (by decide)]
    exact bt_ext (fun i _ => by rw [bt_and, show nI 0 = 0 from rfl, bt_0]; simp)
  · rw [if_neg (fun z => by have := (nI_eq (by omega) (by decide)).mp z; omega), if_pos ⟨nI_pos' (by omega), nI_lt h4 (by decide)⟩]
theorem fHas_eq {s : Int32} {c : Nat} (h : c < 32) : fHas s (nI c) = mb (bt s c = true) := by
  unfold fHas
  refine mb_congr ?_
  have e : (s.toUInt32 >>> ((nI c).toUInt32 &&& Int32.toUInt32 31)).toInt32 = pcS s c := rfl
  rw [e]
  have h2 : ub (pcS s c &&& nI 1) = ub s / 2 ^ c % 2 := by
    rw [ub_and, ub_sh s c h, show ub (nI 1) = 1 by decide, Nat.and_one_is_mod]
  unfold bt
  rw [Nat.testBit_eq_decide_div_mod_eq, decide_eq_true_eq, ← h2]
  constructor
  · intro z
    rw [z]
    decide
  · intro z
    exact ub_inj (z.trans (by decide))
theorem fSh1_eq : ∀ c, c < 32 → fSh1 (nI c) = fBit (nI c) := by decide +kernel
def aMb (t : Int32) (h : Nat) (cs : List Nat) (f : Nat) : Nat → Int32
  | 0 => -1
  | k + 1 => if nI (aC cs (f + k) / 8) = t then (if aMb t h cs f k < nI (sB true h (aC cs (f + k))) then nI (sB true h (aC cs (f + k))) else aMb t h cs f k) else aMb t h cs f k
theorem aMb_lt {t : Int32} {h : Nat} {cs : List Nat} {f : Nat} (hh : h < 4) : ∀ (k j : Nat), aMb t h cs f k < nI (sB true h j) ↔ aMx t h cs f k < (sN true h j : Int)
  | 0, j => by
    have := sB_le true h j
    unfold aMb aMx
    rw [fa_lt, toInt_m1, nI_toInt (by omega)]
    omega
  | k + 1, j => by
    have ih := aMb_lt (t := t) (h := h) (cs := cs) (f := f) hh k
    have l1 := sB_le true h j
    have l2 := sB_le true h (aC cs (f + k))
    unfold aMb aMx
    by_cases ht : nI (aC cs (f + k) / 8) = t
    · rw [if_pos ht, if_pos ht]
      by_cases hl : aMx t h cs f k < (sN true h (aC cs (f + k)) : Int)
      · rw [if_pos ((ih _).mpr hl), if_pos hl, nI_ltI (by omega) (by omega), sB_sN hh]
        omega
      · rw [if_neg (fun z => hl ((ih _).mp z)), if_neg hl]
        exact ih j
    · rw [if_neg ht, if_neg ht]
      exact ih j
def pre_X8_mayPlay (q : aX × (Nat → Int32) × List Nat) (as : List mV) (M : mM) : Prop := as = [.inr (some 50)] ∧ RmQ M q.1 q.2.1 q.2.2 ∧ aOk q.1 q.2.1 q.2.2 ∧ q.2.2.length < 32
def post_X8_mayPlay (q : aX × (Nat → Int32) × List Nat) (_ : List mV) (M : mM) (v : Int32) (M' : mM) : Prop := v = aAl q.1 q.2.1 q.2.2 ∧ M' = M
abbrev t_X8_mayPlay : mG → mT := mRi pre_X8_mayPlay post_X8_mayPlay
theorem mo_X8_mayPlay : mMn t_X8_mayPlay := mRi_mono
theorem rv_X8_mayPlay : mHasR yX8_mayPlay 0 t_X8_mayPlay := by
  intro g as M P hT hl
  obtain ⟨q, ⟨h2, -⟩, -⟩ := hT
  exact ⟨_, _, h2, is_X8 g _ rfl⟩
def k_X8_mayPlay : List (Nat × mI) := [(0, .aload_n 0, 1, 0, 0, []),
  (1, .getfield 27, 3, 0, 0, []),
  (4, .aload_n 0, 1, 0, 0, []),
  (5, .getfield 103, 3, 0, 0, []),
  (8, .iaload, 1, 0, 0, []),
  (9, .istore_n 1, 1, 1, 0, []),
  (10, .aload_n 0, 1, 0, 0, []),
  (11, .getfield 36, 3, 0, 0, []),
  (14, .aload_n 0, 1, 0, 0, []),
  (15, .getfield 97, 3, 0, 0, []),
  (18, .iaload, 1, 0, 0, []),
  (19, .ifCond .ne 5, 3, 24, 0, []),
  (22, .iload_n 1, 1, 1, 0, []),
  (23, .ireturn, 1, 0, 0, []),
  (24, .iload_n 1, 1, 1, 0, []),
  (25, .aload_n 0, 1, 0, 0, []),
  (26, .getfield 45, 3, 0, 0, []),
  (29, .aload_n 0, 1, 0, 0, []),
  (30, .getfield 97, 3, 0, 0, []),
  (33, .aaload, 1, 1, 0, []),
  (34, .iconst 0, 1, 0, nI 0, []),
  (35, .iaload, 1, 1, 0, []),
  (36, .bipush 8, 2, 0, nI 8, []),
  (38, .idiv, 1, 0, 0, []),
  (39, .invokestatic 126, 3, 0, 0, []),
  (42, .istore_n 2, 1, 2, 0, []),
  (43, .iload_n 2, 1, 2, 0, []),
  (44, .ifCond .eq 5, 3, 49, 0, []),
  (47, .iload_n 2, 1, 2, 0, []),
  (48, .ireturn, 1, 0, 0, []),
  (49, .iload_n 1, 1, 1, 0, []),
  (50, .aload_n 0, 1, 0, 0, []),
  (51, .invokevirtual 130, 3, 0, 0, []),
  (54, .invokestatic 126, 3, 0, 0, []),
  (57, .istore_n 3, 1, 3, 0, []),
  (58, .aload_n 0, 1, 0, 0, []),
  (59, .getfield 112, 3, 0, 0, []),
  (62, .ifCond .eq 7, 3, 69, 0, []),
  (65, .iload_n 3, 1, 3, 0, []),
  (66, .ifCond .ne 5, 3, 71, 0, []),
  (69, .iload_n 1, 1, 1, 0, []),
  (70, .ireturn, 1, 0, 0, []),
  (71, .aload_n 0, 1, 0, 0, []),
  (72, .getfield 112, 3, 0, 0, []),
  (75, .iconst 1, 1, 0, nI 1, []),
  (76, .if_icmp .ne 5, 3, 81, 0, []),
  (79, .iload_n 3, 1, 3, 0, []),
  (80, .ireturn, 1, 0, 0, []),
  (81, .iconst (-1), 1, 0, -1, []),
  (82, .istore 4, 2, 4, 0, []),
  (84, .iconst 0, 1, 0, nI 0, []),
  (85, .istore 5, 2, 5, 0, []),
  (87, .iload 5, 2, 5, 0, []),
  (89, .aload_n 0, 1, 0, 0, []),
  (90, .getfield 36, 3, 0, 0, []),
  (93, .aload_n 0, 1, 0, 0, []),
  (94, .getfield 97, 3, 0, 0, []),
  (97, .iaload, 1, 0, 0, []),
  (98, .if_icmp .ge 61, 3, 159, 0, []),
  (101, .aload_n 0, 1, 0, 0, []),
  (102, .getfield 45, 3, 0, 0, []),
  (105, .aload_n 0, 1, 0, 0, []),
  (106, .getfield 97, 3, 0, 0, []),
  (109, .aaload, 1, 1, 0, []),
  (110, .iload 5, 2, 5, 0, []),
  (112, .iaload, 1, 1, 0, []),
  (113, .bipush 8, 2, 0, nI 8, []),
  (115, .idiv, 1, 0, 0, []),
  (116, .aload_n 0, 1, 0, 0, []),
  (117, .getfield 82, 3, 0, 0, []),
  (120, .if_icmp .ne 33, 3, 153, 0, []),
  (123, .iload 4, 2, 4, 0, []),
  (125, .aload_n 0, 1, 0, 0, []),
  (126, .getfield 45, 3, 0, 0, []),
  (129, .aload_n 0, 1, 0, 0, []),
  (130, .getfield 97, 3, 0, 0, []),
  (133, .aaload, 1, 1, 0, []),
  (134, .iload 5, 2, 5, 0, []),
  (136, .iaload, 1, 1, 0, []),
  (137, .aload_n 0, 1, 0, 0, []),
  (138, .getfield 82, 3, 0, 0, []),
  (141, .aload_n 0, 1, 0, 0, []),
  (142, .getfield 109, 3, 0, 0, []),
  (145, .invokestatic 122, 3, 0, 0, []),
  (148, .invokestatic 134, 3, 0, 0, []),
  (151, .istore 4, 2, 4, 0, []),
  (153, .iinc 5 1, 3, 5, nI 1, []),
  (156, .goto (-69), 3, 87, 0, []),
  (159, .iconst 0, 1, 0, nI 0, []),
  (160, .istore 5, 2, 5, 0, []),
  (162, .iconst 0, 1, 0, nI 0, []),
  (163, .istore 6, 2, 6, 0, []),
  (165, .iload 6, 2, 6, 0, []),
  (167, .bipush 32, 2, 0, nI 32, []),
  (169, .if_icmp .ge 46, 3, 215, 0, []),
  (172, .iload_n 3, 1, 3, 0, []),
  (173, .iload 6, 2, 6, 0, []),
  (175, .invokestatic 139, 3, 0, 0, []),
  (178, .ifCond .eq 31, 3, 209, 0, []),
  (181, .iload 6, 2, 6, 0, []),
  (183, .aload_n 0, 1, 0, 0, []),
  (184, .getfield 82, 3, 0, 0, []),
  (187, .aload_n 0, 1, 0, 0, []),
  (188, .getfield 109, 3, 0, 0, []),
  (191, .invokestatic 122, 3, 0, 0, []),
  (194, .iload 4, 2, 4, 0, []),
  (196, .if_icmp .le 13, 3, 209, 0, []),
  (199, .iload 5, 2, 5, 0, []),
  (201, .iload 6, 2, 6, 0, []),
  (203, .invokestatic 143, 3, 0, 0, []),
  (206, .ior, 1, 0, 0, []),
  (207, .istore 5, 2, 5, 0, []),
  (209, .iinc 6 1, 3, 6, nI 1, []),
  (212, .goto (-47), 3, 165, 0, []),
  (215, .iload 5, 2, 5, 0, []),
  (217, .ifCond .eq 8, 3, 225, 0, []),
  (220, .iload 5, 2, 5, 0, []),
  (222, .goto 4, 3, 226, 0, []),
  (225, .iload_n 3, 1, 3, 0, []),
  (226, .ireturn, 1, 0, 0, [])]
theorem kk_X8_mayPlay : (k_X8_mayPlay.all fun e => mChk cX8_mayPlay e.1 e.2) = true := by decide +kernel
def l_X8_mayPlay : List (Nat × Nat × (mG → mT)) := [(3 * 126 + 1, 2, t_X8_ofSuit), (3 * 130, 0 + 1, t_X8_trumpNow), (3 * 122 + 1, 3, t_X8_strengthBy), (3 * 134 + 1, 2, tMax), (3 * 139 + 1, 2, t_X8_has), (3 * 143 + 1, 1, t_X8_bit)]
def f_X8_mayPlay (g : mG) : mF := (mLk k_X8_mayPlay, mLk fl_RX8, mLk (l_X8_mayPlay.map fun e => (e.1, e.2.1, e.2.2 g)), mLk ([] : List (Nat × mV)), mLk ([] : List (Nat × mV)), some .int)
theorem m_X8_mayPlay (g : mG) : mMono (f_X8_mayPlay g) := mMonoL (g := g) (l := l_X8_mayPlay) (List.forall_mem_cons.mpr ⟨mo_X8_ofSuit, List.forall_mem_cons.mpr ⟨mo_X8_trumpNow, List.forall_mem_cons.mpr ⟨mo_X8_strengthBy, List.forall_mem_cons.mpr ⟨tMax_mono, List.forall_mem_cons.mpr ⟨mo_X8_has, List.forall_mem_cons.mpr ⟨mo_X8_bit, fun _ h => absurd h List.not_mem_nil⟩⟩⟩⟩⟩⟩) rfl

set_option maxRecDepth 100000 in
theorem v_mp_0 (g : mG) (M : mM) (P : mP) 
    (h : vp_in (M 50 6) 4 ∧ (vp_in (M 50 19) 8 ∧ ((¬ (M 61 ((M 50 19).toNatClampNeg)) = 0 → ∃ (n2 k3 c4 : Nat) (rs5 : List (Option Nat)), (mSx g)[64]? = some (1, n2, rs5) ∧ (M 50 19) = nI k3 ∧ k3 < n2 ∧ n2 < 2 ^ 31 ∧ rs5[k3]? = some (some c4) ∧ (∃ (n6 : Nat) (rs7 : List (Option Nat)), (mSx g)[c4]? = some (0, n6, rs7) ∧ vp_in (nI 0) n6 ∧ (¬ (nI 8) = 0 ∧ (let v8 : Int32 := fOfS (M 58 ((M 50 6).toNatClampNeg)) ((M c4 ((nI 0).toNatClampNeg)) / (nI 8)); (v8 = 0 → (¬ (M 50 9) = (-1) → (let v11 : Int32 := fOfS (M 58 ((M 50 6).toNatClampNeg)) (M 50 9); ((M 50 15) = 0 → P (some (.inl (M 58 ((M 50 6).toNatClampNeg)))) M) ∧ (¬ ((M 50 15) = 0) → (¬ v11 = 0 → (¬ (M 50 15) = (nI 1) → mRun (mSx g) (f_X8_mayPlay g) P (87, [some (.inr (some 50)), some (.inl (M 58 ((M 50 6).toNatClampNeg))), some (.inl v8), some (.inl v11), some (.inl (-1)), some (.inl (nI 0)), none], [], M)) ∧ (¬ (¬ (M 50 15) = (nI 1)) → P (some (.inl v11)) M)) ∧ (¬ (¬ v11 = 0) → P (some (.inl (M 58 ((M 50 6).toNatClampNeg)))) M)))) ∧ (¬ (¬ (M 50 9) = (-1)) → (let v15 : Int32 := fOfS (M 58 ((M 50 6).toNatClampNeg)) (nI 4); ((M 50 15) = 0 → P (some (.inl (M 58 ((M 50 6).toNatClampNeg)))) M) ∧ (¬ ((M 50 15) = 0) → (¬ v15 = 0 → (¬ (M 50 15) = (nI 1) → mRun (mSx g) (f_X8_mayPlay g) P (87, [some (.inr (some 50)), some (.inl (M 58 ((M 50 6).toNatClampNeg))), some (.inl v8), some (.inl v15), some (.inl (-1)), some (.inl (nI 0)), none], [], M)) ∧ (¬ (¬ (M 50 15) = (nI 1)) → P (some (.inl v15)) M)) ∧ (¬ (¬ v15 = 0) → P (some (.inl (M 58 ((M 50 6).toNatClampNeg)))) M))))) ∧ (¬ (v8 = 0) → P (some (.inl v8)) M))))) ∧ (¬ (¬ (M 61 ((M 50 19).toNatClampNeg)) = 0) → P (some (.inl (M 58 ((M 50 6).toNatClampNeg)))) M)))) :
    mRun (mSx g) (f_X8_mayPlay g) P (0, [some (.inr (some 50)), none, none, none, none, none, none], [], M) := mRun.vc (m_X8_mayPlay g) [87] 45 h

theorem v_mp_87 (g : mG) (M : mM) (P : mP) (hd fo tr st k : Int32) (l6 : Option mV)
    (h : vp_in (M 50 19) 8 ∧ (((M 61 ((M 50 19).toNatClampNeg)) ≤ k → mRun (mSx g) (f_X8_mayPlay g) P (165, [some (.inr (some 50)), some (.inl hd), some (.inl fo), some (.inl tr), some (.inl st), some (.inl (nI 0)), some (.inl (nI 0))], [], M)) ∧ (¬ ((M 61 ((M 50 19).toNatClampNeg)) ≤ k) → ∃ (n2 k3 c4 : Nat) (rs5 : List (Option Nat)), (mSx g)[64]? = some (1, n2, rs5) ∧ (M 50 19) = nI k3 ∧ k3 < n2 ∧ n2 < 2 ^ 31 ∧ rs5[k3]? = some (some c4) ∧ (∃ (n6 : Nat) (rs7 : List (Option Nat)), (mSx g)[c4]? = some (0, n6, rs7) ∧ vp_in k n6 ∧ (¬ (nI 8) = 0 ∧ ((¬ ((M c4 k.toNatClampNeg) / (nI 8)) = (M 50 9) → mRun (mSx g) (f_X8_mayPlay g) P (87, [some (.inr (some 50)), some (.inl hd), some (.inl fo), some (.inl tr), some (.inl st), some (.inl (k + (nI 1))), l6], [], M)) ∧ (¬ (¬ ((M c4 k.toNatClampNeg) / (nI 8)) = (M 50 9)) → ∃ (n9 k10 c11 : Nat) (rs12 : List (Option Nat)), (mSx g)[64]? = some (1, n9, rs12) ∧ (M 50 19) = nI k10 ∧ k10 < n9 ∧ n9 < 2 ^ 31 ∧ rs12[k10]? = some (some c11) ∧ (∃ (n13 : Nat) (rs14 : List (Option Nat)), (mSx g)[c11]? = some (0, n13, rs14) ∧ vp_in k n13 ∧ (let v15 : Int32 := if st < (fStrB (M c11 k.toNatClampNeg) (M 50 9) (M 50 14)) then fStrB (M c11 k.toNatClampNeg) (M 50 9) (M 50 14) else st; mRun (mSx g) (f_X8_mayPlay g) P (87, [some (.inr (some 50)), some (.inl hd), some (.inl fo), some (.inl tr), some (.inl v15), some (.inl (k + (nI 1))), l6], [], M)))))))))) :
    mRun (mSx g) (f_X8_mayPlay g) P (87, [some (.inr (some 50)), some (.inl hd), some (.inl fo), some (.inl tr), some (.inl st), some (.inl k), l6], [], M) := mRun.vc (m_X8_mayPlay g) [87, 165] 37 h

theorem v_mp_165 (g : mG) (M : mM) (P : mP) (hd fo tr st bs c : Int32)
    (h : ((nI 32) ≤ c → (bs = 0 → P (some (.inl tr)) M) ∧ (¬ (bs = 0) → P (some (.inl bs)) M)) ∧ (¬ ((nI 32) ≤ c) → ((fHas tr c) = 0 → mRun (mSx g) (f_X8_mayPlay g) P (165, [some (.inr (some 50)), some (.inl hd), some (.inl fo), some (.inl tr), some (.inl st), some (.inl bs), some (.inl (c + (nI 1)))], [], M)) ∧ (¬ ((fHas tr c) = 0) → ((fStrB c (M 50 9) (M 50 14)) ≤ st → mRun (mSx g) (f_X8_mayPlay g) P (165, [some (.inr (some 50)), some (.inl hd), some (.inl fo), some (.inl tr), some (.inl st), some (.inl bs), some (.inl (c + (nI 1)))], [], M)) ∧ (¬ ((fStrB c (M 50 9) (M 50 14)) ≤ st) → mRun (mSx g) (f_X8_mayPlay g) P (165, [some (.inr (some 50)), some (.inl hd), some (.inl fo), some (.inl tr), some (.inl st), some (.inl (bs ||| (fSh1 c))), some (.inl (c + (nI 1)))], [], M))))) :
    mRun (mSx g) (f_X8_mayPlay g) P (165, [some (.inr (some 50)), some (.inl hd), some (.inl fo), some (.inl tr), some (.inl st), some (.inl bs), some (.inl c)], [], M) := mRun.vc (m_X8_mayPlay g) [165] 23 h

theorem mp_165 (g : mG) (M : mM) (P : mP) (x : aX) (dl : Nat → Int32) (cs : List Nat) (hd fo : Int32) (hQ : RmQ M x dl cs) (hok : aOk x dl cs) (hP : P (some (.inl (if (hd &&& fSuit x.1) &&& aBs (aSt x.1 x.2.1 cs) 32 ≠ 0 then (hd &&& fSuit x.1) &&& aBs (aSt x.1 x.2.1 cs) 32 else hd &&& fSuit x.1))) M) :
    ∀ (n c : Nat), c + n = 32 → mRun (mSx g) (f_X8_mayPlay g) P (165, [some (.inr (some 50)), some (.inl hd), some (.inl fo), some (.inl (hd &&& fSuit x.1)), some (.inl (aMb x.1 x.2.1 cs (cs.length - cs.length % 4) (cs.length % 4))), some (.inl (aBs (fun c => bt (hd &&& fSuit x.1) c && decide (aMb x.1 x.2.1 cs (cs.length - cs.length % 4) (cs.length % 4) < nI (sB true x.2.1 c))) c)), some (.inl (nI c))], [], M) := by
  obtain ⟨-, ⟨-, e9, e14, -⟩, -, ⟨u, hu, hxu⟩, -⟩ := hQ
  have hh := hok.1
  intro n
  induction n with
  | zero =>
    intro c h
    obtain rfl : c = 32 := by omega
    have e : aBs (fun c => bt (hd &&& fSuit x.1) c && decide (aMb x.1 x.2.1 cs (cs.length - cs.length % 4) (cs.length % 4) < nI (sB true x.2.1 c))) 32 = (hd &&& fSuit x.1) &&& aBs (aSt x.1 x.2.1 cs) 32 := bt_ext (fun j hj => by
      rw [bt_aBs hj (Nat.le_refl _), bt_and (hd &&& fSuit x.1), bt_aBs hj (Nat.le_refl _), decide_eq_true hj, Bool.true_and, Bool.true_and]
      cases hb : bt (hd &&& fSuit x.1) j with
      | false => rfl
      | true =>
        rw [Bool.true_and, Bool.true_and]
        rw [bt_and] at hb
        have hb2 := (Bool.and_eq_true _ _ ▸ hb : bt hd j = true ∧ bt (fSuit x.1) j = true).2
        have hs : nI (j / 8) = x.1 := by
          rw [hxu] at hb2 ⊢
          rcases (by omega : u = 4 ∨ u < 4) with rfl | h4
          · rw [show fSuit (nI 4) = 0 by decide, bt_0] at hb2
            cases hb2
          · rw [bt_fSuit u h4 j hj, decide_eq_true_eq] at hb2
            rw [hb2]
        unfold aSt
        rw [decide_eq_true hs, Bool.true_and]
        exact decide_eq_decide.mpr (aMb_lt hh _ _))
    refine v_mp_165 g M P _ _ _ _ _ _ ⟨fun _ => ?_, fun w => absurd (nI_le (Nat.le_refl 32) (by decide)) w⟩
    rw [e]
    refine ⟨fun w => ?_, fun w => ?_⟩
    · rw [if_neg (fun z => z w)] at hP
      exact hP
    · rw [if_pos w] at hP
      exact hP
  | succ n ih =>
    intro c h
    refine v_mp_165 g M P _ _ _ _ _ _ ⟨fun w => absurd w (nI_ge (by omega) (by decide)), fun _ => ?_⟩
    have go := ih (c + 1) (by omega)
    rw [fHas_eq (by omega), mb_0, nI_add, e9, e14]
    refine ⟨fun w => ?_, fun w => ?_⟩
    · rw [aBs, if_neg (by rw [Bool.eq_false_iff.mpr w]; simp)] at go
      exact go
    · have w' := Classical.not_not.mp w
      have hb2 : bt (fSuit x.1) c = true := by
        rw [bt_and] at w'
        exact (Bool.and_eq_true _ _ ▸ w' : bt hd c = true ∧ bt (fSuit x.1) c = true).2
      have hs : nI (c / 8) = x.1 := by
        rw [hxu] at hb2 ⊢
        rcases (by omega : u = 4 ∨ u < 4) with rfl | h4
        · rw [show fSuit (nI 4) = 0 by decide, bt_0] at hb2
          cases hb2
        · rw [bt_fSuit u h4 c (by omega), decide_eq_true_eq] at hb2
          rw [hb2]
      rw [fStrB_N x.1 (by omega) hh, decide_eq_true hs]
      refine ⟨fun y => ?_, fun y => ?_⟩
      · rw [aBs, if_neg (by rw [w', decide_eq_false (Int32.not_lt.mpr y)]; simp)] at go
        exact go
      · rw [aBs, if_pos (by rw [w', decide_eq_true (Int32.not_le.mp y)]; rfl)] at go
        rw [fSh1_eq c (by omega)]
        exact go
theorem mp_87 (g : mG) (M : mM) (P : mP) (x : aX) (dl : Nat → Int32) (cs : List Nat) (hd fo : Int32) (hQ : RmQ M x dl cs) (hok : aOk x dl cs) (hl : cs.length < 32) (hP : P (some (.inl (if (hd &&& fSuit x.1) &&& aBs (aSt x.1 x.2.1 cs) 32 ≠ 0 then (hd &&& fSuit x.1) &&& aBs (aSt x.1 x.2.1 cs) 32 else hd &&& fSuit x.1))) M) :
    ∀ (n k : Nat) (l6 : Option mV), k + n = cs.length % 4 → mRun (mSx g) (f_X8_mayPlay g) P (87, [some (.inr (some 50)), some (.inl hd), some (.inl fo), some (.inl (hd &&& fSuit x.1)), some (.inl (aMb x.1 x.2.1 cs (cs.length - cs.length % 4) k)), some (.inl (nI k)), l6], [], M) := by
  have hQ' := hQ
  obtain ⟨⟨r1, -, -, r4, r5, -⟩, ⟨-, e9, e14, -⟩, -, ⟨u, hu, hxu⟩, -⟩ := hQ'
  have hh := hok.1
  have hlt := aOk.lt hok
  have hL : M 61 (cs.length / 4) = nI (cs.length % 4) := by
    rw [r4 _ (by omega), show min 4 (cs.length - 4 * (cs.length / 4)) = cs.length % 4 by omega]
  have ci : (nI (cs.length / 4)).toNatClampNeg = cs.length / 4 := nI_clamp (by omega)
  intro n
  induction n with
  | zero =>
    intro k l6 h
    obtain rfl : k = cs.length % 4 := by omega
    refine v_mp_87 g M P _ _ _ _ _ _ ?_
    rw [r1, ci, hL]
    exact ⟨vp_in_nI (by omega) (by decide), fun _ => mp_165 g M P x dl cs hd fo hQ hok hP 32 0 rfl, fun w => absurd (nI_le (Nat.le_refl _) (by omega)) w⟩
  | succ n ih =>
    intro k l6 h
    have go := fun l6 => ih (k + 1) l6 (by omega)
    have hin : 4 * (cs.length / 4) + k < cs.length := by omega
    have hcl := hlt _ (aC_in hin)
    have ck : (nI k).toNatClampNeg = k := nI_clamp (by omega)
    have hcd : M (65 + cs.length / 4) k = nI (aC cs (4 * (cs.length / 4) + k)) := r5 _ _ (by omega) hin
    have ef : cs.length - cs.length % 4 = 4 * (cs.length / 4) := by omega
    refine v_mp_87 g M P _ _ _ _ _ _ ?_
    rw [r1, ci, hL]
    refine ⟨vp_in_nI (by omega) (by decide), fun w => absurd w (nI_ge (by omega) (by omega)), fun _ => ?_⟩
    refine rr_at (i := cs.length / 4) o_cards (by decide) (by omega) (ri_at o_cards (by omega) (show k < 4 by omega) (by decide) ⟨n8, ?_⟩)
    rw [ck, hcd, nI_div8 (by omega), e9, nI_add]
    refine ⟨fun w => ?_, fun w => ?_⟩
    · have g2 := go l6
      rw [aMb, ef, if_neg w, ← ef] at g2
      exact g2
    · have w' := Classical.not_not.mp w
      refine rr_at (i := cs.length / 4) o_cards (by decide) (by omega) (ri_at o_cards (by omega) (show k < 4 by omega) (by decide) ?_)
      rw [hcd, e14, fStrB_N x.1 hcl hh, decide_eq_true w']
      have g2 := go l6
      rw [aMb, ef, if_pos w', ← ef] at g2
      rw [← ef]
      exact g2
theorem run_X8_mayPlay : mRunOf 7 t_X8_mayPlay f_X8_mayPlay := fun g as M P hT => by
  obtain ⟨⟨x, dl, cs⟩, ⟨rfl, hQ, hok, hl⟩, hP⟩ := hT
  refine ⟨Nat.le_of_ble_eq_true rfl, ?_⟩
  dsimp only at hQ hok hl
  have hP' : ∀ v, v = aAl x dl cs → P (some (.inl v)) M := fun v e => hP v M ⟨e, rfl⟩
  have hQ' := hQ
  obtain ⟨⟨r1, r2, -, r4, r5, -⟩, ⟨e6, e9, e14, e15⟩, -, ⟨u, hu, hxu⟩, rr, hrr, hxr⟩ := hQ'
  have hlt := aOk.lt hok
  have ht4 := aTn_lt (x := x) (cs := cs) (j := cs.length)
  have ci : (nI (cs.length / 4)).toNatClampNeg = cs.length / 4 := nI_clamp (by omega)
  have ct : (nI (aTn x cs cs.length)).toNatClampNeg = aTn x cs cs.length := nI_clamp (by omega)
  have hL : M 61 (cs.length / 4) = nI (cs.length % 4) := by
    rw [r4 _ (by omega), show min 4 (cs.length - 4 * (cs.length / 4)) = cs.length % 4 by omega]
  refine v_mp_0 g M P ?_
  rw [e6, r1, ci, ct, hL, r2 _ ht4, e9, e15, hxu, fOfS_eq hu, ← hxu]
  have al : aAl x dl cs = (if cs.length % 4 = 0 then aHd dl cs (aTn x cs cs.length) else if aHd dl cs (aTn x cs cs.length) &&& fSuit (nI (aC cs (cs.length - cs.length % 4) / 8)) ≠ 0 then aHd dl cs (aTn x cs cs.length) &&& fSuit (nI (aC cs (cs.length - cs.length % 4) / 8)) else if x.2.2.1 = 0 ∨ aHd dl cs (aTn x cs cs.length) &&& fSuit x.1 = 0 then aHd dl cs (aTn x cs cs.length) else if x.2.2.1 = nI 2 ∧ (aHd dl cs (aTn x cs cs.length) &&& fSuit x.1) &&& aBs (aSt x.1 x.2.1 cs) 32 ≠ 0 then (aHd dl cs (aTn x cs cs.length) &&& fSuit x.1) &&& aBs (aSt x.1 x.2.1 cs) 32 else aHd dl cs (aTn x cs cs.length) &&& fSuit x.1) := rfl
  rw [al] at hP'
  generalize aHd dl cs (aTn x cs cs.length) = hd at hP' ⊢
  refine ⟨vp_in_nI ht4 (by decide), vp_in_nI (by omega) (by decide), fun w => ?_, fun w => ?_⟩
  · have w' : ¬ cs.length % 4 = 0 := fun z => w (by rw [z]; rfl)
    rw [if_neg w'] at hP'
    refine rr_at (i := cs.length / 4) o_cards (by decide) (by omega) (ri_at o_cards (by omega) (show 0 < 4 by decide) (by decide) ⟨n8, ?_⟩)
    have hin : 4 * (cs.length / 4) + 0 < cs.length := by omega
    have hcl := hlt _ (aC_in hin)
    have ef : cs.length - cs.length % 4 = 4 * (cs.length / 4) + 0 := by omega
    rw [show (nI 0).toNatClampNeg = 0 from rfl, r5 _ _ (by decide) hin, nI_div8 (by omega), fOfS_eq (by omega)]
    rw [ef] at hP'
    have hrule : ¬ x.2.2.1 = 0 → ¬ hd &&& fSuit x.1 = 0 → ¬ hd &&& fSuit (nI (aC cs (4 * (cs.length / 4) + 0) / 8)) ≠ 0 → (¬ x.2.2.1 = nI 1 → mRun (mSx g) (f_X8_mayPlay g) P (87, [some (.inr (some 50)), some (.inl hd), some (.inl (hd &&& fSuit (nI (aC cs (4 * (cs.length / 4) + 0) / 8)))), some (.inl (hd &&& fSuit x.1)), some (.inl (-1)), some (.inl (nI 0)), none], [], M)) ∧ (¬ ¬ x.2.2.1 = nI 1 → P (some (.inl (hd &&& fSuit x.1))) M) := fun a b c => by
      rw [if_neg c, if_neg (fun z => z.elim a b)] at hP'
      refine ⟨fun y => ?_, fun y => ?_⟩
      · refine mp_87 g M P x dl cs hd _ hQ hok hl ?_ (cs.length % 4) 0 none (by omega)
        refine hP' _ ?_
        have h2 : x.2.2.1 = nI 2 := by
          rw [hxr] at a y ⊢
          rcases (by omega : rr = 0 ∨ rr = 1 ∨ rr = 2) with rfl | rfl | rfl
          · exact absurd rfl a
          · exact absurd rfl y
          · rfl
        by_cases z : (hd &&& fSuit x.1) &&& aBs (aSt x.1 x.2.1 cs) 32 ≠ 0
        · rw [if_pos z, if_pos ⟨h2, z⟩]
        · rw [if_neg z, if_neg (fun q => z q.2)]
      · have y' := Classical.not_not.mp y
        refine hP' _ ?_
        rw [if_neg (fun q => absurd (y'.symm.trans q.1) (by decide))]
    intro v8
    refine ⟨fun y => ?_, fun y => ?_⟩
    · have y' : ¬ hd &&& fSuit (nI (aC cs (4 * (cs.length / 4) + 0) / 8)) ≠ 0 := fun z => z y
      refine ⟨fun _ => ?_, fun z => absurd (by rw [hxu] at z; exact Classical.not_not.mp z) (ne_m1 (show u < 2 ^ 31 by omega))⟩
      intro v11
      refine ⟨fun z => hP' _ ?_, fun z => ⟨fun z2 => hrule z z2 y', fun z2 => hP' _ ?_⟩⟩
      · rw [if_neg y', if_pos (Or.inl z)]
      · rw [if_neg y', if_pos (Or.inr (Classical.not_not.mp z2))]
    · refine hP' _ ?_
      rw [if_pos y]
  · have w' : cs.length % 4 = 0 := (nI_eq (b := 0) (by omega) (by decide)).mp (Classical.not_not.mp w)
    rw [if_pos w'] at hP'
    exact hP' _ rfl
theorem ok_X8_mayPlay : mOK yX8_mayPlay cX8_mayPlay 7 (some .int) 2 t_X8_mayPlay := mOK.of f_X8_mayPlay (by decide) (fun _ => rfl) (fun g => mCodeOK kk_X8_mayPlay) (fun g => mFldL fk_RX8 rfl) (fun g idx v h => by cases h) (fun g idx v h => by cases h) (mCalL (l := l_X8_mayPlay) (List.forall_mem_cons.mpr ⟨mSite.S (idx := 126) ok_X8_ofSuit (by decide) (by decide) wc_X8_ofSuit wk_RX8_126 wt_X8_ofSuit wn_RX8 wd_X8_ofSuit, List.forall_mem_cons.mpr ⟨mSite.V (idx := 130) ok_X8_trumpNow (by decide) (by decide) rv_X8_trumpNow wc_X8_trumpNow wk_RX8_130 wi_X8_trumpNow wl_X8_trumpNow wn_RX8 wd_X8_trumpNow, List.forall_mem_cons.mpr ⟨mSite.S (idx := 122) ok_X8_strengthBy (by decide) (by decide) wc_X8_strengthBy wk_RX8_122 wt_X8_strengthBy wn_RX8 wd_X8_strengthBy, List.forall_mem_cons.mpr ⟨mSite.max (idx := 134) (by decide) wc_J9_max_7cf53 wk_RX8_134 wt_J9_max_7cf53 wn_RJ9, List.forall_mem_cons.mpr ⟨mSite.S (idx := 139) ok_X8_has (by decide) (by decide) wc_X8_has wk_RX8_139 wt_X8_has wn_RX8 wd_X8_has, List.forall_mem_cons.mpr ⟨mSite.S (idx := 143) ok_X8_bit (by decide) (by decide) wc_X8_bit wk_RX8_143 wt_X8_bit wn_RX8 wd_X8_bit, fun _ h => absurd h List.not_mem_nil⟩⟩⟩⟩⟩⟩) (fun _ => rfl)) run_X8_mayPlay

