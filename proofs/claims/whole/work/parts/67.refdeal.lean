/-! ===== THE REFERENCE: a deal begins, a deal ends ===== -/
theorem RmP_fr {M M' : mM} {x : aX} {dl : Nat → Int32} {a0 a1 : Int32} {cs : List Nat} (h : RmP M x dl a0 a1 cs) (h19 : M' 50 19 = M 50 19) (e : ∀ c, 58 ≤ c → c ≤ 72 → M' c = M c) (hl : cs.length ≤ 32) : RmP M' x dl a0 a1 cs := by
  obtain ⟨r1, r2, r3, r4, r5, r6, r7, r8, r9⟩ := h
  refine ⟨h19.trans r1, fun q hq => (congrFun (e 58 (by decide) (by decide)) q).trans (r2 q hq), fun q hq => (congrFun (e 59 (by decide) (by decide)) q).trans (r3 q hq), fun i hi => (congrFun (e 61 (by decide) (by decide)) i).trans (r4 i hi), fun i j hj h => (congrFun (e (65 + i) (by omega) (by omega)) j).trans (r5 i j hj h), fun i h => (congrFun (e 60 (by decide) (by decide)) i).trans (r6 i h), fun i hi => (congrFun (e 62 (by decide) (by decide)) i).trans (r7 i hi), (congrFun (e 63 (by decide) (by decide)) 0).trans r8, (congrFun (e 63 (by decide) (by decide)) 1).trans r9⟩
theorem RmSc_fr {M M' : mM} {s : aSc} (h : RmSc M s) (e : ∀ k, 26 ≤ k → k ≤ 30 → M' 50 k = M 50 k) (e2 : ∀ c, c = 74 ∨ c = 75 → M' c = M c) : RmSc M' s := by
  obtain ⟨h1, h2, h3⟩ := h
  refine ⟨(e 26 (by decide) (by decide)).trans h1, fun q hq => ?_, fun s' t hs ht => (congrFun (e2 (74 + s') (by omega)) t).trans (h3 s' t hs ht)⟩
  obtain ⟨a1, a2, a3, a4⟩ := h2 q hq
  exact ⟨(e 27 (by decide) (by decide)).trans a1, (e 28 (by decide) (by decide)).trans a2, (e 29 (by decide) (by decide)).trans a3, (e 30 (by decide) (by decide)).trans a4⟩
theorem RmB_fr {M M' : mM} {b : aBd} (h : RmB M b) (e : ∀ k, 8 ≤ k → k ≤ 13 → M' 50 k = M 50 k) (e2 : ∀ c, c = 56 ∨ c = 57 → M' c = M c) : RmB M' b := by
  obtain ⟨h1, h2, h3, h4, h5, h6, h7⟩ := h
  exact ⟨(e 8 (by decide) (by decide)).trans h1, (e 9 (by decide) (by decide)).trans h2, (e 10 (by decide) (by decide)).trans h3, (e 11 (by decide) (by decide)).trans h4, (e 12 (by decide) (by decide)).trans h5, (e 13 (by decide) (by decide)).trans h6, fun s t hs ht => (congrFun (e2 (56 + s) (by omega)) t).trans (h7 s t hs ht)⟩
theorem aDl0_Dp {z : Int32} {q : Nat} (hq : q < 4) : aDl0 z q = aDp z q 8 := bt_ext (fun c hc => by
  rw [Bool.eq_iff_iff, bt_dl hc, bt_aDp hq hc 8 (Nat.le_refl _)]
  constructor
  · rintro ⟨j, hj, h1, h2⟩
    exact ⟨j % 8, Nat.mod_lt _ (by decide), by rw [show 8 * q + j % 8 = j by omega]; exact h2⟩
  · rintro ⟨k, hk, h⟩
    exact ⟨8 * q + k, by omega, by omega, h⟩)
/-- what a deal leaves of the state before -/
def DK (M0 M : mM) : Prop := ∀ c, ¬ (c = 58 ∨ c = 59 ∨ c = 76) → M c = M0 c
theorem DK.up {M0 M : mM} {c k : Nat} {v : Int32} (h : DK M0 M) (hc : c = 58 ∨ c = 59 ∨ c = 76) : DK M0 (mW1 M c k v) := fun d hd => (mW1_c (by omega)).trans (h d hd)
def pre_X8_deals (q : aT × Int32) (as : List mV) (M : mM) : Prop := as = [.inr (some 50), .inl q.2] ∧ RmT M q.1
def post_X8_deals (q : aT × Int32) (_ : List mV) (M : mM) (M' : mM) : Prop := RmT M' ((1, q.1.1.2), bd0 q.1.1.2.1, (aX0, aDl0 q.2, 0, 0, []), q.1.2.2.2) ∧ FrR M M'
abbrev t_X8_deals : mG → mT := mRv pre_X8_deals post_X8_deals
theorem mo_X8_deals : mMn t_X8_deals := mRv_mono
theorem rv_X8_deals : mHasR yX8_deals 1 t_X8_deals := by
  intro g as M P hT hl
  obtain ⟨q, ⟨h2, -⟩, -⟩ := hT
  exact ⟨_, _, h2, is_X8 g _ rfl⟩
def k_X8_deals : List (Nat × mI) := [(0, .aload_n 0, 1, 0, 0, []),
  (1, .invokevirtual 115, 3, 0, 0, []),
  (4, .iconst 0, 1, 0, nI 0, []),
  (5, .istore_n 2, 1, 2, 0, []),
  (6, .iload_n 2, 1, 2, 0, []),
  (7, .bipush 32, 2, 0, nI 32, []),
  (9, .if_icmp .ge 16, 3, 25, 0, []),
  (12, .aload_n 0, 1, 0, 0, []),
  (13, .getfield 51, 3, 0, 0, []),
  (16, .iload_n 2, 1, 2, 0, []),
  (17, .iload_n 2, 1, 2, 0, []),
  (18, .iastore, 1, 0, 0, []),
  (19, .iinc 2 1, 3, 2, nI 1, []),
  (22, .goto (-16), 3, 6, 0, []),
  (25, .iload_n 1, 1, 1, 0, []),
  (26, .istore_n 2, 1, 2, 0, []),
  (27, .bipush 31, 2, 0, nI 31, []),
  (29, .istore_n 3, 1, 3, 0, []),
  (30, .iload_n 3, 1, 3, 0, []),
  (31, .ifCond .le 58, 3, 89, 0, []),
  (34, .iload_n 2, 1, 2, 0, []),
  (35, .ldc 170, 2, 0, 0, []),
  (37, .imul, 1, 0, 0, []),
  (38, .sipush 12345, 3, 0, nI 12345, []),
  (41, .iadd, 1, 0, 0, []),
  (42, .istore_n 2, 1, 2, 0, []),
  (43, .iload_n 2, 1, 2, 0, []),
  (44, .bipush 9, 2, 0, nI 9, []),
  (46, .iushr, 1, 0, 0, []),
  (47, .iload_n 3, 1, 3, 0, []),
  (48, .iconst 1, 1, 0, nI 1, []),
  (49, .iadd, 1, 0, 0, []),
  (50, .irem, 1, 0, 0, []),
  (51, .istore 4, 2, 4, 0, []),
  (53, .aload_n 0, 1, 0, 0, []),
  (54, .getfield 51, 3, 0, 0, []),
  (57, .iload_n 3, 1, 3, 0, []),
  (58, .iaload, 1, 0, 0, []),
  (59, .istore 5, 2, 5, 0, []),
  (61, .aload_n 0, 1, 0, 0, []),
  (62, .getfield 51, 3, 0, 0, []),
  (65, .iload_n 3, 1, 3, 0, []),
  (66, .aload_n 0, 1, 0, 0, []),
  (67, .getfield 51, 3, 0, 0, []),
  (70, .iload 4, 2, 4, 0, []),
  (72, .iaload, 1, 0, 0, []),
  (73, .iastore, 1, 0, 0, []),
  (74, .aload_n 0, 1, 0, 0, []),
  (75, .getfield 51, 3, 0, 0, []),
  (78, .iload 4, 2, 4, 0, []),
  (80, .iload 5, 2, 5, 0, []),
  (82, .iastore, 1, 0, 0, []),
  (83, .iinc 3 (-1), 3, 3, -1, []),
  (86, .goto (-56), 3, 30, 0, []),
  (89, .iconst 0, 1, 0, nI 0, []),
  (90, .istore_n 3, 1, 3, 0, []),
  (91, .iload_n 3, 1, 3, 0, []),
  (92, .iconst 4, 1, 0, nI 4, []),
  (93, .if_icmp .ge 68, 3, 161, 0, []),
  (96, .aload_n 0, 1, 0, 0, []),
  (97, .getfield 27, 3, 0, 0, []),
  (100, .iload_n 3, 1, 3, 0, []),
  (101, .iconst 0, 1, 0, nI 0, []),
  (102, .iastore, 1, 0, 0, []),
  (103, .iconst 0, 1, 0, nI 0, []),
  (104, .istore 4, 2, 4, 0, []),
  (106, .iload 4, 2, 4, 0, []),
  (108, .bipush 8, 2, 0, nI 8, []),
  (110, .if_icmp .ge 33, 3, 143, 0, []),
  (113, .aload_n 0, 1, 0, 0, []),
  (114, .getfield 27, 3, 0, 0, []),
  (117, .iload_n 3, 1, 3, 0, []),
  (118, .dup2, 1, 0, 0, []),
  (119, .iaload, 1, 0, 0, []),
  (120, .aload_n 0, 1, 0, 0, []),
  (121, .getfield 51, 3, 0, 0, []),
  (124, .bipush 8, 2, 0, nI 8, []),
  (126, .iload_n 3, 1, 3, 0, []),
  (127, .imul, 1, 0, 0, []),
  (128, .iload 4, 2, 4, 0, []),
  (130, .iadd, 1, 0, 0, []),
  (131, .iaload, 1, 0, 0, []),
  (132, .invokestatic 143, 3, 0, 0, []),
  (135, .ior, 1, 0, 0, []),
  (136, .iastore, 1, 0, 0, []),
  (137, .iinc 4 1, 3, 4, nI 1, []),
  (140, .goto (-34), 3, 106, 0, []),
  (143, .aload_n 0, 1, 0, 0, []),
  (144, .getfield 30, 3, 0, 0, []),
  (147, .iload_n 3, 1, 3, 0, []),
  (148, .aload_n 0, 1, 0, 0, []),
  (149, .getfield 27, 3, 0, 0, []),
  (152, .iload_n 3, 1, 3, 0, []),
  (153, .iaload, 1, 0, 0, []),
  (154, .iastore, 1, 0, 0, []),
  (155, .iinc 3 1, 3, 3, nI 1, []),
  (158, .goto (-67), 3, 91, 0, []),
  (161, .aload_n 0, 1, 0, 0, []),
  (162, .iconst 1, 1, 0, nI 1, []),
  (163, .putfield 100, 3, 0, 0, []),
  (166, .aload_n 0, 1, 0, 0, []),
  (167, .aload_n 0, 1, 0, 0, []),
  (168, .getfield 106, 3, 0, 0, []),
  (171, .putfield 103, 3, 0, 0, []),
  (174, .return_, 1, 0, 0, [])]
theorem kk_X8_deals : (k_X8_deals.all fun e => mChk cX8_deals e.1 e.2) = true := by decide +kernel
def l_X8_deals : List (Nat × Nat × (mG → mT)) := [(3 * 115, 0 + 1, t_X8_clears), (3 * 143 + 1, 1, t_X8_bit)]
def f_X8_deals (g : mG) : mF := (mLk k_X8_deals, mLk fl_RX8, mLk (l_X8_deals.map fun e => (e.1, e.2.1, e.2.2 g)), mLk cs_RX8, mLk ([] : List (Nat × mV)), none)
theorem m_X8_deals (g : mG) : mMono (f_X8_deals g) := mMonoL (g := g) (l := l_X8_deals) (List.forall_mem_cons.mpr ⟨mo_X8_clears, List.forall_mem_cons.mpr ⟨mo_X8_bit, fun _ h => absurd h List.not_mem_nil⟩⟩) rfl

theorem v_de_0 (g : mG) (M : mM) (P : mP) (z : Int32)
    (h : ∃ x1 : mM, pre_X8_clears x1 [.inr (some 50)] M ∧ ∀ M2 : mM, post_X8_clears x1 [.inr (some 50)] M M2 → (mRun (mSx g) (f_X8_deals g) P (6, [some (.inr (some 50)), some (.inl z), some (.inl (nI 0)), none, none, none], [], M2))) :
    mRun (mSx g) (f_X8_deals g) P (0, [some (.inr (some 50)), some (.inl z), none, none, none, none], [], M) := mRun.vc (m_X8_deals g) [6] 5 h

theorem v_de_6 (g : mG) (M : mM) (P : mP) (z i : Int32)
    (h : ((nI 32) ≤ i → mRun (mSx g) (f_X8_deals g) P (30, [some (.inr (some 50)), some (.inl z), some (.inl z), some (.inl (nI 31)), none, none], [], M)) ∧ (¬ ((nI 32) ≤ i) → vp_in i 32 ∧ (let M2 : mM := mW1 M 76 i.toNatClampNeg i; mRun (mSx g) (f_X8_deals g) P (6, [some (.inr (some 50)), some (.inl z), some (.inl (i + (nI 1))), none, none, none], [], M2)))) :
    mRun (mSx g) (f_X8_deals g) P (6, [some (.inr (some 50)), some (.inl z), some (.inl i), none, none, none], [], M) := mRun.vc (m_X8_deals g) [6, 30] 11 h

set_option maxRecDepth 100000 in
theorem v_de_30 (g : mG) (M : mM) (P : mP) (z y i : Int32) (l4 l5 : Option mV)
    (h : (i ≤ 0 → mRun (mSx g) (f_X8_deals g) P (91, [some (.inr (some 50)), some (.inl z), some (.inl y), some (.inl (nI 0)), l4, l5], [], M)) ∧ (¬ (i ≤ 0) → ¬ (i + (nI 1)) = 0 ∧ (let v2 : Int32 := ((((y * (nI 1103515245)) + (nI 12345)).toUInt32 >>> ((nI 9).toUInt32 &&& Int32.toUInt32 31)).toInt32) - ((((y * (nI 1103515245)) + (nI 12345)).toUInt32 >>> ((nI 9).toUInt32 &&& Int32.toUInt32 31)).toInt32) / (i + (nI 1)) * (i + (nI 1)); vp_in i 32 ∧ (vp_in v2 32 ∧ (vp_in i 32 ∧ (let M3 : mM := mW1 M 76 i.toNatClampNeg (M 76 v2.toNatClampNeg); vp_in v2 32 ∧ (let M4 : mM := mW1 M3 76 v2.toNatClampNeg (M 76 i.toNatClampNeg); mRun (mSx g) (f_X8_deals g) P (30, [some (.inr (some 50)), some (.inl z), some (.inl ((y * (nI 1103515245)) + (nI 12345))), some (.inl (i + (-1))), some (.inl v2), some (.inl (M 76 i.toNatClampNeg))], [], M4)))))))) :
    mRun (mSx g) (f_X8_deals g) P (30, [some (.inr (some 50)), some (.inl z), some (.inl y), some (.inl i), l4, l5], [], M) := mRun.vc (m_X8_deals g) [30, 91] 37 h

theorem v_de_91 (g : mG) (M : mM) (P : mP) (z y q : Int32) (l4 l5 : Option mV)
    (h : ((nI 4) ≤ q → let M2 : mM := mW1 M 50 5 (nI 1); let M3 : mM := mW1 M2 50 6 (M 50 7); P none M3) ∧ (¬ ((nI 4) ≤ q) → vp_in q 4 ∧ (let M4 : mM := mW1 M 58 q.toNatClampNeg (nI 0); mRun (mSx g) (f_X8_deals g) P (106, [some (.inr (some 50)), some (.inl z), some (.inl y), some (.inl q), some (.inl (nI 0)), l5], [], M4)))) :
    mRun (mSx g) (f_X8_deals g) P (91, [some (.inr (some 50)), some (.inl z), some (.inl y), some (.inl q), l4, l5], [], M) := mRun.vc (m_X8_deals g) [106] 11 h

theorem v_de_106 (g : mG) (M : mM) (P : mP) (z y q k : Int32) (l5 : Option mV)
    (h : ((nI 8) ≤ k → vp_in q 4 ∧ (vp_in q 4 ∧ (let M2 : mM := mW1 M 59 q.toNatClampNeg (M 58 q.toNatClampNeg); mRun (mSx g) (f_X8_deals g) P (91, [some (.inr (some 50)), some (.inl z), some (.inl y), some (.inl (q + (nI 1))), some (.inl k), l5], [], M2)))) ∧ (¬ ((nI 8) ≤ k) → vp_in q 4 ∧ (vp_in (((nI 8) * q) + k) 32 ∧ (vp_in q 4 ∧ (let M3 : mM := mW1 M 58 q.toNatClampNeg ((M 58 q.toNatClampNeg) ||| (fSh1 (M 76 ((((nI 8) * q) + k).toNatClampNeg)))); mRun (mSx g) (f_X8_deals g) P (106, [some (.inr (some 50)), some (.inl z), some (.inl y), some (.inl q), some (.inl (k + (nI 1))), l5], [], M3)))))) :
    mRun (mSx g) (f_X8_deals g) P (106, [some (.inr (some 50)), some (.inl z), some (.inl y), some (.inl q), some (.inl k), l5], [], M) := mRun.vc (m_X8_deals g) [91, 106] 22 h

def deP (M0 : mM) (P : mP) (z : Int32) : Prop := ∀ M', DK M0 M' → (∀ q, q < 4 → M' 58 q = aDl0 z q ∧ M' 59 q = aDl0 z q) → P none (mW1 (mW1 M' 50 5 (nI 1)) 50 6 (M' 50 7))
theorem de_106 (g : mG) (P : mP) (M0 : mM) (z y : Int32) (q : Nat) (hq : q < 4) (hk : ∀ (M : mM) (l4 l5 : Option mV), DK M0 M → (∀ j, j < 32 → M 76 j = nI (aDeck z j)) → (∀ r, r < q + 1 → M 58 r = aDl0 z r ∧ M 59 r = aDl0 z r) → mRun (mSx g) (f_X8_deals g) P (91, [some (.inr (some 50)), some (.inl z), some (.inl y), some (.inl (nI (q + 1))), l4, l5], [], M)) :
    ∀ (n k : Nat) (M : mM) (l5 : Option mV), k + n = 8 → DK M0 M → (∀ j, j < 32 → M 76 j = nI (aDeck z j)) → (∀ r, r < q → M 58 r = aDl0 z r ∧ M 59 r = aDl0 z r) → M 58 q = aDp z q k → mRun (mSx g) (f_X8_deals g) P (106, [some (.inr (some 50)), some (.inl z), some (.inl y), some (.inl (nI q)), some (.inl (nI k)), l5], [], M)
  | 0, k, M, l5, h, h1, h2, h3, h4 => by
    obtain rfl : k = 8 := by omega
    have cq : (nI q).toNatClampNeg = q := nI_clamp (by omega)
    refine v_de_106 g M P _ _ _ _ _ ⟨fun _ => ⟨vp_in_nI hq (by decide), vp_in_nI hq (by decide), ?_⟩, fun w => absurd (nI_le (Nat.le_refl 8) (by decide)) w⟩
    rw [cq, nI_add, h4, ← aDl0_Dp hq]
    intro M2
    refine hk M2 _ _ (h1.up (by decide)) (fun j hj => ?_) (fun r hr => ?_)
    · exact (congrFun (mW1_c (by decide) : M2 76 = M 76) j).trans (h2 j hj)
    · show mW1 M 59 q _ 58 r = _ ∧ mW1 M 59 q _ 59 r = _
      rw [mW1_c (by decide)]
      by_cases e : r = q
      · subst e
        exact ⟨h4.trans (aDl0_Dp hq).symm, mW1_s⟩
      · rw [mW1_k e]
        exact h3 r (by omega)
  | n + 1, k, M, l5, h, h1, h2, h3, h4 => by
    have cq : (nI q).toNatClampNeg = q := nI_clamp (by omega)
    have ck : (nI (8 * q + k)).toNatClampNeg = 8 * q + k := nI_clamp (by omega)
    refine v_de_106 g M P _ _ _ _ _ ⟨fun w => absurd w (nI_ge (by omega) (by decide)), fun _ => ⟨vp_in_nI hq (by decide), ?_⟩⟩
    rw [pk_mul, nI_add, ck, cq, nI_add, h2 _ (by omega), fSh1_eq _ (deck_lt z (by omega)), h4]
    refine ⟨vp_in_nI (by omega) (by decide), vp_in_nI hq (by decide), ?_⟩
    intro M3
    refine de_106 g P M0 z y q hq hk n (k + 1) M3 l5 (by omega) (h1.up (by decide)) (fun j hj => ?_) (fun r hr => ?_) ?_
    · exact (congrFun (mW1_c (by decide) : M3 76 = M 76) j).trans (h2 j hj)
    · show mW1 M 58 q _ 58 r = _ ∧ mW1 M 58 q _ 59 r = _
      rw [mW1_k (by omega), mW1_c (by decide)]
      exact h3 r hr
    · exact mW1_s
theorem de_91 (g : mG) (P : mP) (M0 : mM) (z y : Int32) (hP : deP M0 P z) :
    ∀ (n q : Nat) (M : mM) (l4 l5 : Option mV), q + n = 4 → DK M0 M → (∀ j, j < 32 → M 76 j = nI (aDeck z j)) → (∀ r, r < q → M 58 r = aDl0 z r ∧ M 59 r = aDl0 z r) → mRun (mSx g) (f_X8_deals g) P (91, [some (.inr (some 50)), some (.inl z), some (.inl y), some (.inl (nI q)), l4, l5], [], M)
  | 0, q, M, l4, l5, h, h1, h2, h3 => by
    obtain rfl : q = 4 := by omega
    exact v_de_91 g M P _ _ _ _ _ ⟨fun _ => hP M h1 h3, fun w => absurd (nI_le (Nat.le_refl 4) (by decide)) w⟩
  | n + 1, q, M, l4, l5, h, h1, h2, h3 => by
    have cq : (nI q).toNatClampNeg = q := nI_clamp (by omega)
    refine v_de_91 g M P _ _ _ _ _ ⟨fun w => absurd w (nI_ge (by omega) (by decide)), fun _ => ⟨vp_in_nI (by omega) (by decide), ?_⟩⟩
    rw [cq]
    intro M4
    refine de_106 g P M0 z y q (by omega) (fun M l4 l5 k1 k2 k3 => de_91 g P M0 z y hP n (q + 1) M l4 l5 (by omega) k1 k2 k3) 8 0 M4 l5 rfl (h1.up (by decide)) (fun j hj => ?_) (fun r hr => ?_) ?_
    · exact (congrFun (mW1_c (by decide) : M4 76 = M 76) j).trans (h2 j hj)
    · show mW1 M 58 q _ 58 r = _ ∧ mW1 M 58 q _ 59 r = _
      rw [mW1_k (by omega), mW1_c (by decide)]
      exact h3 r hr
    · exact mW1_s
theorem de_30 (g : mG) (P : mP) (z : Int32) (M0 : mM) (hP : deP M0 P z) :
    ∀ (m n : Nat) (M : mM) (l4 l5 : Option mV), n + m = 31 → DK M0 M → (∀ j, j < 32 → M 76 j = nI ((aSh z n).2 j)) → mRun (mSx g) (f_X8_deals g) P (30, [some (.inr (some 50)), some (.inl z), some (.inl (aSh z n).1), some (.inl (nI (31 - n))), l4, l5], [], M)
  | 0, n, M, l4, l5, hn, hK, hd => by
    obtain rfl : n = 31 := by omega
    refine v_de_30 g M P z _ (nI (31 - 31)) l4 l5 ⟨fun _ => ?_, fun w => absurd (by decide) w⟩
    exact de_91 g P M0 z _ hP 4 0 M l4 l5 rfl hK hd (fun r hr => absurd hr (Nat.not_lt_zero r))
  | m + 1, n, M, l4, l5, hn, hK, hd => by
    have hy : (aSh z (n + 1)).1 = fNext (aSh z n).1 := rfl
    have hy2 : (aSh z n).1 * nI 1103515245 + nI 12345 = fNext (aSh z n).1 := rfl
    have hf : (aSh z (n + 1)).2 = aSw (aSh z n).2 (31 - n) (ub (fNext (aSh z n).1) / 512 % (32 - n)) := rfl
    have hj := Nat.mod_lt (ub (fNext (aSh z n).1) / 512) (show 0 < 32 - n by omega)
    have hub := ub_lt (fNext (aSh z n).1)
    refine v_de_30 g M P z _ (nI (31 - n)) l4 l5 ⟨fun w => absurd w (nI_nle (by omega) (by omega)), fun _ => ⟨by rw [nI_add]; exact nI_ne0 (by omega) (by omega), ?_⟩⟩
    rw [nI_add, show 31 - n + 1 = 32 - n by omega, hy2, pcS9, pk_rem (by omega) (by omega) (by omega), ← hy]
    rw [hy]
    generalize hjj : ub (fNext (aSh z n).1) / 512 % (32 - n) = jj at *
    intro v1
    have hv1 : v1 = nI jj := rfl
    clear_value v1
    subst hv1
    have cj : (nI jj).toNatClampNeg = jj := nI_clamp (by omega)
    have cn : (nI (31 - n)).toNatClampNeg = 31 - n := nI_clamp (by omega)
    rw [cj, cn]
    refine ⟨vp_in_nI (by omega) (by decide), vp_in_nI (by omega) (by decide), vp_in_nI (by omega) (by decide), ?_⟩
    intro M3
    refine ⟨vp_in_nI (by omega) (by decide), ?_⟩
    intro M4
    have := de_30 g P z M0 hP m (n + 1) M4 (some (.inl (nI jj))) (some (.inl (M 76 (31 - n)))) (by omega) ((hK.up (by decide)).up (by decide)) (fun j hj2 => by
      show mW1 (mW1 M 76 (31 - n) _) 76 jj _ 76 j = _
      rw [hf]
      unfold aSw
      by_cases e1 : j = jj
      · rw [e1, mW1_s, if_pos rfl, hd _ (by omega)]
      · rw [mW1_k e1, if_neg e1]
        by_cases e2 : j = 31 - n
        · rw [e2, mW1_s, if_pos rfl, hd _ (by omega)]
        · rw [mW1_k e2, if_neg e2]
          exact hd j hj2)
    rw [nI_s1 (by omega), show 31 - n - 1 = 31 - (n + 1) by omega]
    exact this
theorem de_6 (g : mG) (P : mP) (z : Int32) (M0 : mM) (hP : deP M0 P z) :
    ∀ (m i : Nat) (M : mM), i + m = 32 → DK M0 M → (∀ j, j < i → M 76 j = nI j) → mRun (mSx g) (f_X8_deals g) P (6, [some (.inr (some 50)), some (.inl z), some (.inl (nI i)), none, none, none], [], M)
  | 0, i, M, hi, hK, hd => by
    obtain rfl : i = 32 := by omega
    refine v_de_6 g M P z (nI 32) ⟨fun _ => ?_, fun w => absurd (nI_le (Nat.le_refl _) (by decide)) w⟩
    exact de_30 g P z M0 hP 31 0 M none none rfl hK hd
  | m + 1, i, M, hi, hK, hd => by
    have ci : (nI i).toNatClampNeg = i := nI_clamp (by omega)
    refine v_de_6 g M P z (nI i) ⟨fun w => absurd w (nI_ge (by omega) (by decide)), fun _ => ⟨vp_in_nI (by omega) (by decide), ?_⟩⟩
    rw [nI_add, ci]
    intro M1
    refine de_6 g P z M0 hP m (i + 1) M1 (by omega) (hK.up (by decide)) (fun j hj => ?_)
    show mW1 M 76 i _ 76 j = _
    by_cases e : j = i
    · rw [e, mW1_s]
    · rw [mW1_k e]
      exact hd j (by omega)
theorem run_X8_deals : mRunOf 6 t_X8_deals f_X8_deals := fun g as M P hT => by
  obtain ⟨⟨T, z⟩, ⟨rfl, hR⟩, hP⟩ := hT
  refine ⟨Nat.le_of_ble_eq_true rfl, ?_⟩
  dsimp only at hR hP
  obtain ⟨⟨h1, h2, h3, h4, h5⟩, hB, hPl, hS, hL⟩ := hR
  refine v_de_0 g M P z ⟨M, ⟨rfl, rfl⟩, fun M2 h => ?_⟩
  obtain ⟨⟨k1, k2, k3, k4⟩, k5, k6⟩ := h
  refine de_6 g P z M2 (fun M' a1 a2 => hP _ ?_) 32 0 M2 rfl (fun _ _ => rfl) (fun j hj => absurd hj (Nat.not_lt_zero j))
  have m50 : M' 50 = M2 50 := a1 50 (by decide)
  have f50 : ∀ k, k ≠ 5 → k ≠ 6 → mW1 (mW1 M' 50 5 (nI 1)) 50 6 (M' 50 7) 50 k = M2 50 k := fun k e1 e2 => by
    rw [mW1_k e2, mW1_k e1, m50]
  have fc : ∀ c, c ≠ 50 → mW1 (mW1 M' 50 5 (nI 1)) 50 6 (M' 50 7) c = M' c := fun c hc => by rw [mW1_c hc, mW1_c hc]
  have g50 : ∀ k, ¬ (8 ≤ k ∧ k ≤ 13) → k ≠ 19 → k ≠ 5 → k ≠ 6 → mW1 (mW1 M' 50 5 (nI 1)) 50 6 (M' 50 7) 50 k = M 50 k := fun k e1 e2 e3 e4 => (f50 k e3 e4).trans (k3 k e1 e2)
  refine ⟨⟨⟨?_, ?_, ?_, ?_, ?_⟩, ⟨?_, ?_, ?_, ?_, ?_, ?_, fun s t hs ht => ?_⟩, RmP_nil ?_ (fun q hq => ?_) (fun i hi => ?_) ?_, ?_, fun h => by cases h⟩, fun c hc => ?_, fun k hk => ?_⟩
  · rw [mW1_k (by decide), mW1_s]
  · rw [mW1_s, m50, k3 7 (by decide) (by decide), h3, turnI_1 rfl]
    rfl
  · rw [g50 7 (by decide) (by decide) (by decide) (by decide)]
    exact h3
  · rw [g50 14 (by decide) (by decide) (by decide) (by decide)]
    exact h4
  · rw [g50 15 (by decide) (by decide) (by decide) (by decide)]
    exact h5
  · exact (f50 8 (by decide) (by decide)).trans k1.1
  · exact (f50 9 (by decide) (by decide)).trans k1.2.1
  · exact (f50 10 (by decide) (by decide)).trans k1.2.2.1
  · exact (f50 11 (by decide) (by decide)).trans k1.2.2.2.1
  · exact (f50 12 (by decide) (by decide)).trans k1.2.2.2.2.1
  · exact (f50 13 (by decide) (by decide)).trans k1.2.2.2.2.2.1
  · rw [fc (56 + s) (by omega), a1 (56 + s) (by omega)]
    exact k5 s t hs ht
  · exact (f50 19 (by decide) (by decide)).trans k1.2.2.2.2.2.2
  · rw [fc 58 (by decide), fc 59 (by decide)]
    exact a2 q hq
  · rw [fc 61 (by decide), fc 60 (by decide), fc 62 (by decide), a1 61 (by decide), a1 60 (by decide), a1 62 (by decide)]
    exact k6 i hi
  · rw [fc 63 (by decide), a1 63 (by decide)]
    exact k2
  · refine RmSc_fr hS (fun k e1 e2 => g50 k (by omega) (by omega) (by omega) (by omega)) (fun c hc => ?_)
    rw [fc c (by omega), a1 c (by omega), k4 c (by omega)]
  · rw [fc c (by omega), a1 c (by omega), k4 c (by omega)]
  · exact g50 k (by omega) (by omega) (by omega) (by omega)
theorem ok_X8_deals : mOK yX8_deals cX8_deals 6 (none) 2 t_X8_deals := mOK.of f_X8_deals (by decide) (fun _ => rfl) (fun g => mCodeOK kk_X8_deals) (fun g => mFldL fk_RX8 rfl) (mCstL ck_RX8 (fun _ => rfl)) (fun g idx v h => by cases h) (mCalL (l := l_X8_deals) (List.forall_mem_cons.mpr ⟨mSite.V (idx := 115) ok_X8_clears (by decide) (by decide) rv_X8_clears wc_X8_clears wk_RX8_115 wi_X8_clears wl_X8_clears wn_RX8 wd_X8_clears, List.forall_mem_cons.mpr ⟨mSite.S (idx := 143) ok_X8_bit (by decide) (by decide) wc_X8_bit wk_RX8_143 wt_X8_bit wn_RX8 wd_X8_bit, fun _ h => absurd h List.not_mem_nil⟩⟩) (fun _ => rfl)) run_X8_deals

/-- the state, but for phase and turn -/
def RmW (M : mM) (T : aT) : Prop := (M 50 7 = nI T.1.2.1 ∧ M 50 14 = nI T.1.2.2.1 ∧ M 50 15 = nI T.1.2.2.2) ∧ RmB M T.2.1 ∧ RmP M T.2.2.1.1 T.2.2.1.2.1 T.2.2.1.2.2.1 T.2.2.1.2.2.2.1 T.2.2.1.2.2.2.2 ∧ RmSc M T.2.2.2
theorem RmT.W {M : mM} {T : aT} (h : RmT M T) : RmW M T := ⟨⟨h.1.2.2.1, h.1.2.2.2.1, h.1.2.2.2.2⟩, h.2.1, h.2.2.1, h.2.2.2.1⟩
def endOk (T : aT) : Prop := ∃ n t q d, T.2.1.2.1 = some (n, t, q) ∧ T.2.1.2.2.1 = some d ∧ d < 4 ∧ d % 2 = q % 2 ∧ T.2.1.1.2.1 ≤ 2
theorem fScore_B {h m b t : Int32} {d : Nat} (hd : d ≤ 2) : fScoreB h m b t (nI d) = fScore h m b t (nI d) := by
  unfold fScoreB fScore
  rw [Int32.mul_comm]
  have e : (if nI d = nI 0 then nI 1 else nI 2 * nI d) = fTimes (nI d) := by
    rcases (by omega : d = 0 ∨ d = 1 ∨ d = 2) with rfl | rfl | rfl <;> decide
  rw [e]
def pre_X8_endsDeal (q : aT × Nat) (as : List mV) (M : mM) : Prop := as = [.inr (some 50), .inl (nI q.2)] ∧ RmW M q.1 ∧ q.1.1.2.1 < 4 ∧ q.1.2.2.1.2.2.2.2.length ≤ 32 ∧ (q.2 = 0 ∨ q.2 = 1 ∧ endOk q.1)
def post_X8_endsDeal (q : aT × Nat) (_ : List mV) (M : mM) (M' : mM) : Prop := RmT M' (if q.2 = 0 then tEnd q.1 else tSet q.1) ∧ FrR M M'
abbrev t_X8_endsDeal : mG → mT := mRv pre_X8_endsDeal post_X8_endsDeal
theorem mo_X8_endsDeal : mMn t_X8_endsDeal := mRv_mono
theorem rv_X8_endsDeal : mHasR yX8_endsDeal 1 t_X8_endsDeal := by
  intro g as M P hT hl
  obtain ⟨q, ⟨h2, -⟩, -⟩ := hT
  exact ⟨_, _, h2, is_X8 g _ rfl⟩
def k_X8_endsDeal : List (Nat × mI) := [(0, .aload_n 0, 1, 0, 0, []),
  (1, .iconst 0, 1, 0, nI 0, []),
  (2, .putfield 100, 3, 0, 0, []),
  (5, .aload_n 0, 1, 0, 0, []),
  (6, .iconst (-1), 1, 0, -1, []),
  (7, .putfield 103, 3, 0, 0, []),
  (10, .aload_n 0, 1, 0, 0, []),
  (11, .aload_n 0, 1, 0, 0, []),
  (12, .getfield 106, 3, 0, 0, []),
  (15, .iconst 1, 1, 0, nI 1, []),
  (16, .iadd, 1, 0, 0, []),
  (17, .iconst 4, 1, 0, nI 4, []),
  (18, .irem, 1, 0, 0, []),
  (19, .putfield 106, 3, 0, 0, []),
  (22, .iload_n 1, 1, 1, 0, []),
  (23, .ifCond .ne 4, 3, 27, 0, []),
  (26, .return_, 1, 0, 0, []),
  (27, .aload_n 0, 1, 0, 0, []),
  (28, .iconst 1, 1, 0, nI 1, []),
  (29, .putfield 118, 3, 0, 0, []),
  (32, .aload_n 0, 1, 0, 0, []),
  (33, .aload_n 0, 1, 0, 0, []),
  (34, .getfield 42, 3, 0, 0, []),
  (37, .aload_n 0, 1, 0, 0, []),
  (38, .getfield 79, 3, 0, 0, []),
  (41, .invokestatic 151, 3, 0, 0, []),
  (44, .iaload, 1, 0, 0, []),
  (45, .putfield 154, 3, 0, 0, []),
  (48, .aload_n 0, 1, 0, 0, []),
  (49, .aload_n 0, 1, 0, 0, []),
  (50, .getfield 85, 3, 0, 0, []),
  (53, .putfield 157, 3, 0, 0, []),
  (56, .aload_n 0, 1, 0, 0, []),
  (57, .aload_n 0, 1, 0, 0, []),
  (58, .getfield 82, 3, 0, 0, []),
  (61, .putfield 160, 3, 0, 0, []),
  (64, .aload_n 0, 1, 0, 0, []),
  (65, .aload_n 0, 1, 0, 0, []),
  (66, .getfield 91, 3, 0, 0, []),
  (69, .putfield 163, 3, 0, 0, []),
  (72, .iconst 0, 1, 0, nI 0, []),
  (73, .istore_n 2, 1, 2, 0, []),
  (74, .iload_n 2, 1, 2, 0, []),
  (75, .bipush 6, 2, 0, nI 6, []),
  (77, .if_icmp .ge 46, 3, 123, 0, []),
  (80, .aload_n 0, 1, 0, 0, []),
  (81, .getfield 48, 3, 0, 0, []),
  (84, .aload_n 0, 1, 0, 0, []),
  (85, .getfield 79, 3, 0, 0, []),
  (88, .invokestatic 151, 3, 0, 0, []),
  (91, .aaload, 1, 1, 0, []),
  (92, .iload_n 2, 1, 2, 0, []),
  (93, .dup2, 1, 0, 0, []),
  (94, .iaload, 1, 1, 0, []),
  (95, .iload_n 2, 1, 2, 0, []),
  (96, .aload_n 0, 1, 0, 0, []),
  (97, .getfield 154, 3, 0, 0, []),
  (100, .aload_n 0, 1, 0, 0, []),
  (101, .getfield 157, 3, 0, 0, []),
  (104, .aload_n 0, 1, 0, 0, []),
  (105, .getfield 160, 3, 0, 0, []),
  (108, .aload_n 0, 1, 0, 0, []),
  (109, .getfield 163, 3, 0, 0, []),
  (112, .invokestatic 166, 3, 0, 0, []),
  (115, .iadd, 1, 0, 0, []),
  (116, .iastore, 1, 1, 0, []),
  (117, .iinc 2 1, 3, 2, nI 1, []),
  (120, .goto (-46), 3, 74, 0, []),
  (123, .return_, 1, 0, 0, [])]
theorem kk_X8_endsDeal : (k_X8_endsDeal.all fun e => mChk cX8_endsDeal e.1 e.2) = true := by decide +kernel
def l_X8_endsDeal : List (Nat × Nat × (mG → mT)) := [(3 * 151 + 1, 1, t_X8_side), (3 * 166 + 1, 5, t_X8_scored)]
def f_X8_endsDeal (g : mG) : mF := (mLk k_X8_endsDeal, mLk fl_RX8, mLk (l_X8_endsDeal.map fun e => (e.1, e.2.1, e.2.2 g)), mLk ([] : List (Nat × mV)), mLk ([] : List (Nat × mV)), none)
theorem m_X8_endsDeal (g : mG) : mMono (f_X8_endsDeal g) := mMonoL (g := g) (l := l_X8_endsDeal) (List.forall_mem_cons.mpr ⟨mo_X8_side, List.forall_mem_cons.mpr ⟨mo_X8_scored, fun _ h => absurd h List.not_mem_nil⟩⟩) rfl

set_option maxRecDepth 100000 in
theorem v_en_0 (g : mG) (M : mM) (P : mP) (b : Int32)
    (h : let M1 : mM := mW1 M 50 5 (nI 0); let M2 : mM := mW1 M1 50 6 (-1); ¬ (nI 4) = 0 ∧ (let M3 : mM := mW1 M2 50 7 (((M 50 7) + (nI 1)) - ((M 50 7) + (nI 1)) / (nI 4) * (nI 4)); (¬ b = 0 → ((nI 1) = 0 ∨ (nI 1) = 1) ∧ (let M5 : mM := mW1 M3 50 26 (nI 1); vp_in (fSide (M 50 8)) 2 ∧ (let M6 : mM := mW1 M5 50 27 (M 63 ((fSide (M 50 8)).toNatClampNeg)); let M7 : mM := mW1 M6 50 28 (M 50 10); let M8 : mM := mW1 M7 50 29 (M 50 9); let M9 : mM := mW1 M8 50 30 (M 50 12); mRun (mSx g) (f_X8_endsDeal g) P (74, [some (.inr (some 50)), some (.inl b), some (.inl (nI 0))], [], M9)))) ∧ (¬ (¬ b = 0) → P none M3))) :
    mRun (mSx g) (f_X8_endsDeal g) P (0, [some (.inr (some 50)), some (.inl b), none], [], M) := mRun.vc (m_X8_endsDeal g) [74] 42 h

theorem v_en_74 (g : mG) (M : mM) (P : mP) (b h : Int32)
    (hVC : ((nI 6) ≤ h → P none M) ∧ (¬ ((nI 6) ≤ h) → ∃ (n2 k3 c4 : Nat) (rs5 : List (Option Nat)), (mSx g)[73]? = some (1, n2, rs5) ∧ (fSide (M 50 8)) = nI k3 ∧ k3 < n2 ∧ n2 < 2 ^ 31 ∧ rs5[k3]? = some (some c4) ∧ (∃ (n6 : Nat) (rs7 : List (Option Nat)), (mSx g)[c4]? = some (0, n6, rs7) ∧ vp_in h n6 ∧ (∃ (n8 : Nat) (rs9 : List (Option Nat)), (mSx g)[c4]? = some (0, n8, rs9) ∧ vp_in h n8 ∧ (let M10 : mM := mW1 M c4 h.toNatClampNeg ((M c4 h.toNatClampNeg) + (fScoreB h (M 50 27) (M 50 28) (M 50 29) (M 50 30))); mRun (mSx g) (f_X8_endsDeal g) P (74, [some (.inr (some 50)), some (.inl b), some (.inl (h + (nI 1)))], [], M10)))))) :
    mRun (mSx g) (f_X8_endsDeal g) P (74, [some (.inr (some 50)), some (.inl b), some (.inl h)], [], M) := mRun.vc (m_X8_endsDeal g) [74] 27 hVC

theorem en_74 (g : mG) (P : mP) (M0 : mM) (b : Int32) (s e : Nat) (m n t : Int32) (hs : s < 2) (he : e ≤ 2) (h8 : fSide (M0 50 8) = nI s) (h27 : M0 50 27 = m) (h28 : M0 50 28 = n) (h29 : M0 50 29 = t) (h30 : M0 50 30 = nI e)
    (hP : ∀ M', (∀ c, c ≠ 74 + s → M' c = M0 c) → (∀ h, h < 6 → M' (74 + s) h = M0 (74 + s) h + fScore (nI h) m n t (nI e)) → P none M') :
    ∀ (k h : Nat) (M : mM), h + k = 6 → (∀ c, c ≠ 74 + s → M c = M0 c) → (∀ i, i < 6 → M (74 + s) i = if i < h then M0 (74 + s) i + fScore (nI i) m n t (nI e) else M0 (74 + s) i) → mRun (mSx g) (f_X8_endsDeal g) P (74, [some (.inr (some 50)), some (.inl b), some (.inl (nI h))], [], M)
  | 0, h, M, hk, h1, h2 => by
    obtain rfl : h = 6 := by omega
    refine v_en_74 g M P _ _ ⟨fun _ => hP M h1 (fun h hh => ?_), fun w => absurd (nI_le (Nat.le_refl 6) (by decide)) w⟩
    rw [h2 h hh, if_pos hh]
  | k + 1, h, M, hk, h1, h2 => by
    have ch : (nI h).toNatClampNeg = h := nI_clamp (by omega)
    refine v_en_74 g M P _ _ ⟨fun w => absurd w (nI_ge (by omega) (by decide)), fun _ => ?_⟩
    rw [h1 50 (by omega), h8, h27, h28, h29, h30, ch, nI_add, fScore_B he]
    refine rr_at (i := s) o_totals (by decide) hs (ri_at o_totals hs (show h < 6 by omega) (by decide) (ri_at o_totals hs (show h < 6 by omega) (by decide) ?_))
    intro M10
    refine en_74 g P M0 b s e m n t hs he h8 h27 h28 h29 h30 hP k (h + 1) M10 (by omega) (fun c hc => (mW1_c hc).trans (h1 c hc)) (fun i hi => ?_)
    show mW1 M (74 + s) h _ (74 + s) i = _
    by_cases e1 : i = h
    · rw [e1, mW1_s, if_pos (by omega), h2 h (by omega), if_neg (by omega)]
    · rw [mW1_k e1, h2 i hi]
      by_cases e2 : i < h
      · rw [if_pos e2, if_pos (by omega)]
      · rw [if_neg e2, if_neg (by omega)]
theorem en_run (g : mG) (M : mM) (P : mP) (T : aT) (b : Nat) (hW : RmW M T) (h4 : T.1.2.1 < 4) (hl : T.2.2.1.2.2.2.2.length ≤ 32) (hb : b = 0 ∨ b = 1 ∧ endOk T) (hP : ∀ M', RmT M' (if b = 0 then tEnd T else tSet T) → FrR M M' → P none M') : mRun (mSx g) (f_X8_endsDeal g) P (0, [some (.inr (some 50)), some (.inl (nI b)), none], [], M) := by
  obtain ⟨⟨w7, w14, w15⟩, hB, hPl, hS⟩ := hW
  refine v_en_0 g M P _ ?_
  rw [w7, nI_add, nI_mod4 (by omega)]
  intro M1 M2
  refine ⟨n4, ?_⟩
  intro M3
  have f3 : ∀ k, k ≠ 5 → k ≠ 6 → k ≠ 7 → M3 50 k = M 50 k := fun k a1 a2 a3 => by
    show mW1 (mW1 (mW1 M 50 5 _) 50 6 _) 50 7 _ 50 k = _
    rw [mW1_k a3, mW1_k a2, mW1_k a1]
  have c3 : ∀ c, c ≠ 50 → M3 c = M c := fun c hc => by
    show mW1 (mW1 (mW1 M 50 5 _) 50 6 _) 50 7 _ c = _
    rw [mW1_c hc, mW1_c hc, mW1_c hc]
  have t5 : M3 50 5 = nI 0 := by
    show mW1 (mW1 (mW1 M 50 5 _) 50 6 _) 50 7 _ 50 5 = _
    rw [mW1_k (by decide), mW1_k (by decide), mW1_s]
  have t6 : M3 50 6 = -1 := by
    show mW1 (mW1 (mW1 M 50 5 _) 50 6 _) 50 7 _ 50 6 = _
    rw [mW1_k (by decide), mW1_s]
  have t7 : M3 50 7 = nI (nx T.1.2.1) := mW1_s
  clear_value M3
  refine ⟨fun hz => ?_, fun hz => ?_⟩
  · obtain ⟨rfl, n, t, q, d, e1, e2, e3, e4, e5⟩ := hb.resolve_left (fun z => hz (by rw [z]; rfl))
    rw [if_neg (by decide)] at hP
    have w8 : M 50 8 = nI d := by rw [hB.1, e2]; rfl
    have w9 : M 50 9 = nI t := by rw [hB.2.1, e1]; rfl
    have w10 : M 50 10 = nI n := by rw [hB.2.2.1, e1]; rfl
    have w12 : M 50 12 = nI T.2.1.1.2.1 := hB.2.2.2.2.1
    have cd : (nI (d % 2)).toNatClampNeg = d % 2 := nI_clamp (by omega)
    have w63 : M 63 (d % 2) = nI (pMade T.2.2.1 T.2.1) := by
      unfold pMade pWon
      rw [e1]
      dsimp only
      rw [nI_ub, ← e4]
      rcases (by omega : d % 2 = 0 ∨ d % 2 = 1) with h | h
      · rw [h, if_pos rfl]
        exact hPl.2.2.2.2.2.2.2.1
      · rw [h, if_neg (by decide)]
        exact hPl.2.2.2.2.2.2.2.2
    rw [w8, fSide_nI (by omega), cd, w63, w9, w10, w12]
    refine ⟨Or.inr rfl, ?_⟩
    intro M5
    refine ⟨vp_in_nI (by omega) (by decide), ?_⟩
    intro M6 M7 M8 M9
    have f9 : ∀ k, ¬ (26 ≤ k ∧ k ≤ 30) → M9 50 k = M3 50 k := fun k h => by
      show mW1 (mW1 (mW1 (mW1 (mW1 M3 50 26 _) 50 27 _) 50 28 _) 50 29 _) 50 30 _ 50 k = _
      rw [mW1_k (by omega), mW1_k (by omega), mW1_k (by omega), mW1_k (by omega), mW1_k (by omega)]
    have c9 : ∀ c, c ≠ 50 → M9 c = M3 c := fun c hc => by
      show mW1 (mW1 (mW1 (mW1 (mW1 M3 50 26 _) 50 27 _) 50 28 _) 50 29 _) 50 30 _ c = _
      rw [mW1_c hc, mW1_c hc, mW1_c hc, mW1_c hc, mW1_c hc]
    have u : M9 50 26 = nI 1 ∧ M9 50 27 = nI (pMade T.2.2.1 T.2.1) ∧ M9 50 28 = nI n ∧ M9 50 29 = nI t ∧ M9 50 30 = nI T.2.1.1.2.1 := by
      show mW1 (mW1 (mW1 (mW1 (mW1 M3 50 26 _) 50 27 _) 50 28 _) 50 29 _) 50 30 _ 50 26 = _ ∧ mW1 (mW1 (mW1 (mW1 (mW1 M3 50 26 _) 50 27 _) 50 28 _) 50 29 _) 50 30 _ 50 27 = _ ∧ mW1 (mW1 (mW1 (mW1 (mW1 M3 50 26 _) 50 27 _) 50 28 _) 50 29 _) 50 30 _ 50 28 = _ ∧ mW1 (mW1 (mW1 (mW1 (mW1 M3 50 26 _) 50 27 _) 50 28 _) 50 29 _) 50 30 _ 50 29 = _ ∧ mW1 (mW1 (mW1 (mW1 (mW1 M3 50 26 _) 50 27 _) 50 28 _) 50 29 _) 50 30 _ 50 30 = _
      simp (disch := decide) only [mW1_k, mW1_s]
      exact ⟨trivial, trivial, trivial, trivial, trivial⟩
    obtain ⟨u26, u27, u28, u29, u30⟩ := u
    clear_value M9
    have n8 : fSide (M9 50 8) = nI (d % 2) := by
      rw [f9 8 (by decide), f3 8 (by decide) (by decide) (by decide), w8, fSide_nI (by omega)]
    refine en_74 g P M9 _ (d % 2) T.2.1.1.2.1 _ _ _ (by omega) e5 n8 u27 u28 u29 u30 (fun M' a1 a2 => ?_) 6 0 M9 rfl (fun _ _ => rfl) (fun i _ => by rw [if_neg (Nat.not_lt_zero i)])
    have m50 : ∀ k, ¬ (26 ≤ k ∧ k ≤ 30) → k ≠ 5 → k ≠ 6 → k ≠ 7 → M' 50 k = M 50 k := fun k b0 b1 b2 b3 => (congrFun (a1 50 (by omega)) k).trans ((f9 k b0).trans (f3 k b1 b2 b3))
    have mc : ∀ c, c ≠ 50 → c ≠ 74 + d % 2 → M' c = M c := fun c b1 b2 => (a1 c b2).trans ((c9 c b1).trans (c3 c b1))
    have m3 : ∀ k, ¬ (26 ≤ k ∧ k ≤ 30) → M' 50 k = M3 50 k := fun k b0 => (congrFun (a1 50 (by omega)) k).trans (f9 k b0)
    have mu : ∀ k, M' 50 k = M9 50 k := fun k => congrFun (a1 50 (by omega)) k
    have hs : sSet T.2.2.2 T.2.1 (pMade T.2.2.1 T.2.1) = (some (pMade T.2.2.1 T.2.1, n, t, T.2.1.1.2.1), fun j => if j / 6 = q % 2 then T.2.2.2.2 j + fScore (nI (j % 6)) (nI (pMade T.2.2.1 T.2.1)) (nI n) (nI t) (nI T.2.1.1.2.1) else T.2.2.2.2 j) := by
      unfold sSet
      rw [e1]
    refine hP M' ⟨⟨(m3 5 (by decide)).trans t5, ?_, (m3 7 (by decide)).trans t7, (m50 14 (by decide) (by decide) (by decide) (by decide)).trans w14, (m50 15 (by decide) (by decide) (by decide) (by decide)).trans w15⟩, RmB_fr hB (fun k b1 b2 => m50 k (by omega) (by omega) (by omega) (by omega)) (fun c hc => mc c (by omega) (by omega)), RmP_fr hPl (m50 19 (by decide) (by decide) (by decide) (by decide)) (fun c b1 b2 => mc c (by omega) (by omega)) hl, ?_, fun z => by cases z⟩ ⟨fun c hc => mc c (by omega) (by omega), fun k hk => m50 k (by omega) (by omega) (by omega) (by omega)⟩
    · rw [m3 6 (by decide), t6, turnI_0 rfl]
    · show RmSc M' (sSet T.2.2.2 T.2.1 (pMade T.2.2.1 T.2.1))
      rw [hs]
      refine ⟨(mu 26).trans u26, fun y hy => ?_, fun s' h hs' hh => ?_⟩
      · cases hy
        exact ⟨(mu 27).trans u27, (mu 28).trans u28, (mu 29).trans u29, (mu 30).trans u30⟩
      · have hold := hS.2.2 s' h hs' hh
        show _ = if (6 * s' + h) / 6 = q % 2 then _ else _
        rw [show (6 * s' + h) / 6 = s' by omega, show (6 * s' + h) % 6 = h by omega, ← e4]
        by_cases e : s' = d % 2
        · rw [if_pos e, ← hold, e, a2 h hh, c9 (74 + d % 2) (by omega), c3 (74 + d % 2) (by omega)]
        · rw [if_neg e, mc (74 + s') (by omega) (by omega)]
          exact hold
  · have hz' : b = 0 := by
      rcases hb with h | h
      · exact h
      · exact absurd (by rw [h.1]; decide) hz
    rw [if_pos hz'] at hP
    refine hP M3 ⟨⟨t5, by rw [t6, turnI_0 rfl], t7, (f3 14 (by decide) (by decide) (by decide)).trans w14, (f3 15 (by decide) (by decide) (by decide)).trans w15⟩, RmB_fr hB (fun k b1 b2 => f3 k (by omega) (by omega) (by omega)) (fun c hc => c3 c (by omega)), RmP_fr hPl (f3 19 (by decide) (by decide) (by decide)) (fun c b1 b2 => c3 c (by omega)) hl, RmSc_fr hS (fun k b1 b2 => f3 k (by omega) (by omega) (by omega)) (fun c hc => c3 c (by omega)), fun z => by cases z⟩ ⟨fun c hc => c3 c (by omega), fun k hk => f3 k (by omega) (by omega) (by omega)⟩
theorem run_X8_endsDeal : mRunOf 3 t_X8_endsDeal f_X8_endsDeal := fun g as M P hT => by
  obtain ⟨⟨T, b⟩, ⟨rfl, h2, h3, h4, h5⟩, hP⟩ := hT
  refine ⟨Nat.le_of_ble_eq_true rfl, ?_⟩
  dsimp only at h2 h3 h4 h5
  exact en_run g M P T b h2 h3 h4 h5 (fun M' a b => hP M' ⟨a, b⟩)
theorem ok_X8_endsDeal : mOK yX8_endsDeal cX8_endsDeal 3 (none) 3 t_X8_endsDeal := mOK.of f_X8_endsDeal (by decide) (fun _ => rfl) (fun g => mCodeOK kk_X8_endsDeal) (fun g => mFldL fk_RX8 rfl) (fun g idx v h => by cases h) (fun g idx v h => by cases h) (mCalL (l := l_X8_endsDeal) (List.forall_mem_cons.mpr ⟨mSite.S (idx := 151) ok_X8_side (by decide) (by decide) wc_X8_side wk_RX8_151 wt_X8_side wn_RX8 wd_X8_side, List.forall_mem_cons.mpr ⟨mSite.S (idx := 166) ok_X8_scored (by decide) (by decide) wc_X8_scored wk_RX8_166 wt_X8_scored wn_RX8 wd_X8_scored, fun _ h => absurd h List.not_mem_nil⟩⟩) (fun _ => rfl)) run_X8_endsDeal

