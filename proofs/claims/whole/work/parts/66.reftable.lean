/-! ===== THE REFERENCE: its table ===== -/
def RmB (M : mM) (b : aBd) : Prop := M 50 8 = oI b.2.2.1 ∧ M 50 9 = oI (b.2.1.map fun q => q.2.1) ∧ M 50 10 = oI (b.2.1.map fun q => q.1) ∧ M 50 11 = oI (b.2.1.map fun q => q.2.2) ∧ M 50 12 = nI b.1.2.1 ∧ M 50 13 = nI b.1.2.2 ∧ ∀ s t, s < 2 → t < 5 → M (56 + s) t = oI (b.2.2.2 (5 * s + t))
def RmSc (M : mM) (s : aSc) : Prop := M 50 26 = (if s.1.isSome then 1 else 0) ∧ (∀ q, s.1 = some q → M 50 27 = nI q.1 ∧ M 50 28 = nI q.2.1 ∧ M 50 29 = nI q.2.2.1 ∧ M 50 30 = nI q.2.2.2) ∧ ∀ s' h, s' < 2 → h < 6 → M (74 + s') h = s.2 (6 * s' + h)
def RmT (M : mM) (T : aT) : Prop := (M 50 5 = nI T.1.1 ∧ M 50 6 = turnI T ∧ M 50 7 = nI T.1.2.1 ∧ M 50 14 = nI T.1.2.2.1 ∧ M 50 15 = nI T.1.2.2.2) ∧ RmB M T.2.1 ∧ RmP M T.2.2.1.1 T.2.2.1.2.1 T.2.2.1.2.2.1 T.2.2.1.2.2.2.1 T.2.2.1.2.2.2.2 ∧ RmSc M T.2.2.2 ∧ (T.1.1 = 2 → M 60 (T.2.2.1.2.2.2.2.length / 4) = nI (aLd T.2.2.1.1 T.2.2.1.2.2.2.2 (T.2.2.1.2.2.2.2.length / 4)))
def FrR (M M' : mM) : Prop := (∀ c, ¬ (c = 50 ∨ (55 ≤ c ∧ c ≤ 76)) → M' c = M c) ∧ ∀ k, k < 5 ∨ 30 < k → M' 50 k = M 50 k
theorem FrR.refl {M : mM} : FrR M M := ⟨fun _ _ => rfl, fun _ _ => rfl⟩
theorem FrR.trans {M M1 M2 : mM} (h : FrR M M1) (k : FrR M1 M2) : FrR M M2 := ⟨fun c hc => (k.1 c hc).trans (h.1 c hc), fun c h1 => (k.2 c h1).trans (h.2 c h1)⟩
theorem FrR.M {M M' : mM} (h : FrR M M') : FrM M M' := fun c hc => h.1 c (by omega)
theorem FrQ.R {M M' : mM} (h : FrQ M M') : FrR M M' := ⟨fun c hc => h.1 c (by omega), fun k hk => h.2 k (by omega) (by omega)⟩
/-- only the cards, the turn and the number of tricks have changed -/
theorem RmB_frQ {M M' : mM} {b : aBd} (h : RmB M b) (k : FrQ M M') : RmB M' b := by
  obtain ⟨h1, h2, h3, h4, h5, h6, h7⟩ := h
  exact ⟨(k.2 8 (by decide) (by decide)).trans h1, (k.2 9 (by decide) (by decide)).trans h2, (k.2 10 (by decide) (by decide)).trans h3, (k.2 11 (by decide) (by decide)).trans h4, (k.2 12 (by decide) (by decide)).trans h5, (k.2 13 (by decide) (by decide)).trans h6, fun s t hs ht => (congrFun (k.1 (56 + s) (by omega)) t).trans (h7 s t hs ht)⟩
theorem RmSc_frQ {M M' : mM} {s : aSc} (h : RmSc M s) (k : FrQ M M') : RmSc M' s := by
  obtain ⟨h1, h2, h3⟩ := h
  refine ⟨(k.2 26 (by decide) (by decide)).trans h1, fun q hq => ?_, fun s' t hs ht => (congrFun (k.1 (74 + s') (by omega)) t).trans (h3 s' t hs ht)⟩
  obtain ⟨a1, a2, a3, a4⟩ := h2 q hq
  exact ⟨(k.2 27 (by decide) (by decide)).trans a1, (k.2 28 (by decide) (by decide)).trans a2, (k.2 29 (by decide) (by decide)).trans a3, (k.2 30 (by decide) (by decide)).trans a4⟩
theorem turnI_2 {T : aT} (h : T.1.1 = 2) : turnI T = nI (aTn T.2.2.1.1 T.2.2.1.2.2.2.2 T.2.2.1.2.2.2.2.length) := by
  unfold turnI
  rw [h, if_neg (by decide), if_neg (by decide)]
theorem turnI_1 {T : aT} (h : T.1.1 = 1) : turnI T = nI T.2.1.1.1 := by
  unfold turnI
  rw [h, if_neg (by decide), if_pos rfl]
theorem turnI_0 {T : aT} (h : T.1.1 = 0) : turnI T = -1 := by
  unfold turnI
  rw [h, if_pos (show nI 0 = (0 : Int32) from rfl)]
/-- in the play -/
theorem RmT.Q {M : mM} {T : aT} (h : RmT M T) (hI : tInv T) (k : T.1.1 = 2) : RmQ M T.2.2.1.1 T.2.2.1.2.1 T.2.2.1.2.2.2.2 := by
  obtain ⟨⟨h1, h2, h3, h4, h5⟩, hB, hP, hS, hL⟩ := h
  obtain ⟨n, t, q, d, c1, c2, c3, c3', c3'', c3n, c4, c5, c6, c7, c8⟩ := hI.2.2.2.1 k
  rw [c5, c6] at hP
  refine ⟨hP, ⟨?_, ?_, ?_, ?_⟩, fun _ => hL k, ⟨t, c3'', by rw [c4]⟩, ⟨T.1.2.2.2, hI.1.2.2.2, by rw [c4]⟩⟩
  · rw [h2, turnI_2 k]
  · rw [hB.2.1, c1, c4]
    rfl
  · rw [h4, c4]
  · rw [h5, c4]
theorem RmT.of {M M' : mM} {T : aT} (h : RmT M T) (hI : tInv T) (k : T.1.1 = 2) (hQ : RmQ M' T.2.2.1.1 T.2.2.1.2.1 T.2.2.1.2.2.2.2) (hF : FrQ M M') : RmT M' T := by
  obtain ⟨⟨h1, h2, h3, h4, h5⟩, hB, hP, hS, hL⟩ := h
  obtain ⟨n, t, q, d, c1, c2, c3, c3', c3'', c3n, c4, c5, c6, c7, c8⟩ := hI.2.2.2.1 k
  refine ⟨⟨(hF.2 5 (by decide) (by decide)).trans h1, ?_, (hF.2 7 (by decide) (by decide)).trans h3, (hF.2 14 (by decide) (by decide)).trans h4, (hF.2 15 (by decide) (by decide)).trans h5⟩, RmB_frQ hB hF, ?_, RmSc_frQ hS hF, fun _ => hQ.2.2.1 c8⟩
  · rw [turnI_2 k]
    exact hQ.2.1.1
  · rw [c5, c6]
    exact hQ.1
/-! cleared -/
def CL (M0 M : mM) : Prop := (M 50 8 = -1 ∧ M 50 9 = -1 ∧ M 50 10 = -1 ∧ M 50 11 = -1 ∧ M 50 12 = 0 ∧ M 50 13 = 0 ∧ M 50 19 = 0) ∧ (M 63 0 = 0 ∧ M 63 1 = 0) ∧ (∀ k, ¬ (8 ≤ k ∧ k ≤ 13) → k ≠ 19 → M 50 k = M0 50 k) ∧ ∀ c, ¬ (c = 50 ∨ c = 56 ∨ c = 57 ∨ c = 60 ∨ c = 61 ∨ c = 62 ∨ c = 63) → M c = M0 c
def CL2 (M : mM) : Prop := ∀ s t, s < 2 → t < 5 → M (56 + s) t = -1
def CL3 (M : mM) (n : Nat) : Prop := ∀ i, i < n → M 61 i = 0 ∧ M 60 i = -1 ∧ M 62 i = -1
theorem CL.up {M0 M : mM} {c k : Nat} {v : Int32} (h : CL M0 M) (hc : c = 56 ∨ c = 57 ∨ c = 60 ∨ c = 61 ∨ c = 62) : CL M0 (mW1 M c k v) := by
  obtain ⟨a, b, d, e⟩ := h
  have f50 : mW1 M c k v 50 = M 50 := mW1_c (by omega)
  have f63 : mW1 M c k v 63 = M 63 := mW1_c (by omega)
  refine ⟨by rw [f50]; exact a, by rw [f63]; exact b, fun k h1 h2 => by rw [f50]; exact d k h1 h2, fun d hd => (mW1_c (by omega)).trans (e d hd)⟩
def pre_X8_clears (q : mM) (as : List mV) (M : mM) : Prop := as = [.inr (some 50)] ∧ q = M
def post_X8_clears (q : mM) (_ : List mV) (M : mM) (M' : mM) : Prop := CL M M' ∧ CL2 M' ∧ CL3 M' 8
abbrev t_X8_clears : mG → mT := mRv pre_X8_clears post_X8_clears
theorem mo_X8_clears : mMn t_X8_clears := mRv_mono
theorem rv_X8_clears : mHasR yX8_clears 0 t_X8_clears := by
  intro g as M P hT hl
  obtain ⟨q, ⟨h2, -⟩, -⟩ := hT
  exact ⟨_, _, h2, is_X8 g _ rfl⟩
def k_X8_clears : List (Nat × mI) := [(0, .aload_n 0, 1, 0, 0, []),
  (1, .iconst (-1), 1, 0, -1, []),
  (2, .putfield 79, 3, 0, 0, []),
  (5, .aload_n 0, 1, 0, 0, []),
  (6, .iconst (-1), 1, 0, -1, []),
  (7, .putfield 82, 3, 0, 0, []),
  (10, .aload_n 0, 1, 0, 0, []),
  (11, .iconst (-1), 1, 0, -1, []),
  (12, .putfield 85, 3, 0, 0, []),
  (15, .aload_n 0, 1, 0, 0, []),
  (16, .iconst (-1), 1, 0, -1, []),
  (17, .putfield 88, 3, 0, 0, []),
  (20, .aload_n 0, 1, 0, 0, []),
  (21, .iconst 0, 1, 0, nI 0, []),
  (22, .putfield 91, 3, 0, 0, []),
  (25, .aload_n 0, 1, 0, 0, []),
  (26, .iconst 0, 1, 0, nI 0, []),
  (27, .putfield 94, 3, 0, 0, []),
  (30, .aload_n 0, 1, 0, 0, []),
  (31, .iconst 0, 1, 0, nI 0, []),
  (32, .putfield 97, 3, 0, 0, []),
  (35, .aload_n 0, 1, 0, 0, []),
  (36, .getfield 42, 3, 0, 0, []),
  (39, .iconst 0, 1, 0, nI 0, []),
  (40, .iconst 0, 1, 0, nI 0, []),
  (41, .iastore, 1, 0, 0, []),
  (42, .aload_n 0, 1, 0, 0, []),
  (43, .getfield 42, 3, 0, 0, []),
  (46, .iconst 1, 1, 0, nI 1, []),
  (47, .iconst 0, 1, 0, nI 0, []),
  (48, .iastore, 1, 0, 0, []),
  (49, .iconst 0, 1, 0, nI 0, []),
  (50, .istore_n 1, 1, 1, 0, []),
  (51, .iload_n 1, 1, 1, 0, []),
  (52, .iconst 2, 1, 0, nI 2, []),
  (53, .if_icmp .ge 31, 3, 84, 0, []),
  (56, .iconst 0, 1, 0, nI 0, []),
  (57, .istore_n 2, 1, 2, 0, []),
  (58, .iload_n 2, 1, 2, 0, []),
  (59, .iconst 5, 1, 0, nI 5, []),
  (60, .if_icmp .ge 18, 3, 78, 0, []),
  (63, .aload_n 0, 1, 0, 0, []),
  (64, .getfield 24, 3, 0, 0, []),
  (67, .iload_n 1, 1, 1, 0, []),
  (68, .aaload, 1, 1, 0, []),
  (69, .iload_n 2, 1, 2, 0, []),
  (70, .iconst (-1), 1, 0, -1, []),
  (71, .iastore, 1, 1, 0, []),
  (72, .iinc 2 1, 3, 2, nI 1, []),
  (75, .goto (-17), 3, 58, 0, []),
  (78, .iinc 1 1, 3, 1, nI 1, []),
  (81, .goto (-30), 3, 51, 0, []),
  (84, .iconst 0, 1, 0, nI 0, []),
  (85, .istore_n 1, 1, 1, 0, []),
  (86, .iload_n 1, 1, 1, 0, []),
  (87, .bipush 8, 2, 0, nI 8, []),
  (89, .if_icmp .ge 30, 3, 119, 0, []),
  (92, .aload_n 0, 1, 0, 0, []),
  (93, .getfield 36, 3, 0, 0, []),
  (96, .iload_n 1, 1, 1, 0, []),
  (97, .iconst 0, 1, 0, nI 0, []),
  (98, .iastore, 1, 0, 0, []),
  (99, .aload_n 0, 1, 0, 0, []),
  (100, .getfield 33, 3, 0, 0, []),
  (103, .iload_n 1, 1, 1, 0, []),
  (104, .iconst (-1), 1, 0, -1, []),
  (105, .iastore, 1, 0, 0, []),
  (106, .aload_n 0, 1, 0, 0, []),
  (107, .getfield 39, 3, 0, 0, []),
  (110, .iload_n 1, 1, 1, 0, []),
  (111, .iconst (-1), 1, 0, -1, []),
  (112, .iastore, 1, 0, 0, []),
  (113, .iinc 1 1, 3, 1, nI 1, []),
  (116, .goto (-30), 3, 86, 0, []),
  (119, .return_, 1, 0, 0, [])]
theorem kk_X8_clears : (k_X8_clears.all fun e => mChk cX8_clears e.1 e.2) = true := by decide +kernel
def l_X8_clears : List (Nat × Nat × (mG → mT)) := []
def f_X8_clears (g : mG) : mF := (mLk k_X8_clears, mLk fl_RX8, mLk (l_X8_clears.map fun e => (e.1, e.2.1, e.2.2 g)), mLk ([] : List (Nat × mV)), mLk ([] : List (Nat × mV)), none)
theorem m_X8_clears (g : mG) : mMono (f_X8_clears g) := mMonoL (g := g) (l := l_X8_clears) (fun _ h => absurd h List.not_mem_nil) rfl

theorem v_cl_0 (g : mG) (M : mM) (P : mP) 
    (h : let M1 : mM := mW1 M 50 8 (-1); let M2 : mM := mW1 M1 50 9 (-1); let M3 : mM := mW1 M2 50 10 (-1); let M4 : mM := mW1 M3 50 11 (-1); let M5 : mM := mW1 M4 50 12 (nI 0); let M6 : mM := mW1 M5 50 13 (nI 0); let M7 : mM := mW1 M6 50 19 (nI 0); vp_in (nI 0) 2 ∧ (let M8 : mM := mW1 M7 63 ((nI 0).toNatClampNeg) (nI 0); vp_in (nI 1) 2 ∧ (let M9 : mM := mW1 M8 63 ((nI 1).toNatClampNeg) (nI 0); mRun (mSx g) (f_X8_clears g) P (51, [some (.inr (some 50)), some (.inl (nI 0)), none], [], M9)))) :
    mRun (mSx g) (f_X8_clears g) P (0, [some (.inr (some 50)), none, none], [], M) := mRun.vc (m_X8_clears g) [51] 34 h

theorem v_cl_51 (g : mG) (M : mM) (P : mP) (s : Int32) (l2 : Option mV)
    (h : ((nI 2) ≤ s → mRun (mSx g) (f_X8_clears g) P (86, [some (.inr (some 50)), some (.inl (nI 0)), l2], [], M)) ∧ (¬ ((nI 2) ≤ s) → mRun (mSx g) (f_X8_clears g) P (58, [some (.inr (some 50)), some (.inl s), some (.inl (nI 0))], [], M))) :
    mRun (mSx g) (f_X8_clears g) P (51, [some (.inr (some 50)), some (.inl s), l2], [], M) := mRun.vc (m_X8_clears g) [58, 86] 6 h

theorem v_cl_58 (g : mG) (M : mM) (P : mP) (s t : Int32)
    (h : ((nI 5) ≤ t → mRun (mSx g) (f_X8_clears g) P (51, [some (.inr (some 50)), some (.inl (s + (nI 1))), some (.inl t)], [], M)) ∧ (¬ ((nI 5) ≤ t) → ∃ (n2 k3 c4 : Nat) (rs5 : List (Option Nat)), (mSx g)[55]? = some (1, n2, rs5) ∧ s = nI k3 ∧ k3 < n2 ∧ n2 < 2 ^ 31 ∧ rs5[k3]? = some (some c4) ∧ (∃ (n6 : Nat) (rs7 : List (Option Nat)), (mSx g)[c4]? = some (0, n6, rs7) ∧ vp_in t n6 ∧ (let M8 : mM := mW1 M c4 t.toNatClampNeg (-1); mRun (mSx g) (f_X8_clears g) P (58, [some (.inr (some 50)), some (.inl s), some (.inl (t + (nI 1)))], [], M8))))) :
    mRun (mSx g) (f_X8_clears g) P (58, [some (.inr (some 50)), some (.inl s), some (.inl t)], [], M) := mRun.vc (m_X8_clears g) [51, 58] 13 h

theorem v_cl_86 (g : mG) (M : mM) (P : mP) (i : Int32) (l2 : Option mV)
    (h : ((nI 8) ≤ i → P none M) ∧ (¬ ((nI 8) ≤ i) → vp_in i 8 ∧ (let M2 : mM := mW1 M 61 i.toNatClampNeg (nI 0); vp_in i 8 ∧ (let M3 : mM := mW1 M2 60 i.toNatClampNeg (-1); vp_in i 8 ∧ (let M4 : mM := mW1 M3 62 i.toNatClampNeg (-1); mRun (mSx g) (f_X8_clears g) P (86, [some (.inr (some 50)), some (.inl (i + (nI 1))), l2], [], M4)))))) :
    mRun (mSx g) (f_X8_clears g) P (86, [some (.inr (some 50)), some (.inl i), l2], [], M) := mRun.vc (m_X8_clears g) [86] 21 h

theorem cl_86 (g : mG) (P : mP) (M0 : mM) (hP : ∀ M', CL M0 M' → CL2 M' → CL3 M' 8 → P none M') : ∀ (n i : Nat) (M : mM) (l2 : Option mV), i + n = 8 → CL M0 M → CL2 M → CL3 M i → mRun (mSx g) (f_X8_clears g) P (86, [some (.inr (some 50)), some (.inl (nI i)), l2], [], M)
  | 0, i, M, l2, h, h1, h2, h3 => by
    obtain rfl : i = 8 := by omega
    exact v_cl_86 g M P _ _ ⟨fun _ => hP M h1 h2 h3, fun w => absurd (nI_le (Nat.le_refl 8) (by decide)) w⟩
  | n + 1, i, M, l2, h, h1, h2, h3 => by
    have ci : (nI i).toNatClampNeg = i := nI_clamp (by omega)
    refine v_cl_86 g M P _ _ ⟨fun w => absurd w (nI_ge (by omega) (by decide)), fun _ => ?_⟩
    rw [ci, nI_add]
    refine ⟨vp_in_nI (by omega) (by decide), ?_⟩
    intro M2
    refine ⟨vp_in_nI (by omega) (by decide), ?_⟩
    intro M3
    refine ⟨vp_in_nI (by omega) (by decide), ?_⟩
    intro M4
    refine cl_86 g P M0 hP n (i + 1) M4 l2 (by omega) (((h1.up (by decide)).up (by decide)).up (by decide)) (fun s t hs ht => ?_) (fun j hj => ?_)
    · show mW1 (mW1 (mW1 M 61 i _) 60 i _) 62 i _ (56 + s) t = _
      rw [mW1_c (by omega), mW1_c (by omega), mW1_c (by omega)]
      exact h2 s t hs ht
    · show mW1 (mW1 (mW1 M 61 i _) 60 i _) 62 i _ 61 j = _ ∧ mW1 (mW1 (mW1 M 61 i _) 60 i _) 62 i _ 60 j = _ ∧ mW1 (mW1 (mW1 M 61 i _) 60 i _) 62 i _ 62 j = _
      rw [mW1_c (by decide), mW1_c (by decide)]
      by_cases e : j = i
      · subst e
        refine ⟨mW1_s, ?_, mW1_s⟩
        rw [mW1_c (by decide), mW1_s]
      · rw [mW1_k e, mW1_c (by decide), mW1_k e, mW1_k e, mW1_c (by decide), mW1_c (by decide), mW1_c (by decide)]
        exact h3 j (by omega)
theorem cl_58 (g : mG) (P : mP) (M0 : mM) (s : Nat) (hs : s < 2) (hk : ∀ (M : mM) (l2 : Option mV), CL M0 M → (∀ s' t', s' < 2 → t' < 5 → s' < s + 1 → M (56 + s') t' = -1) → mRun (mSx g) (f_X8_clears g) P (51, [some (.inr (some 50)), some (.inl (nI (s + 1))), l2], [], M)) :
    ∀ (n t : Nat) (M : mM), t + n = 5 → CL M0 M → (∀ s' t', s' < 2 → t' < 5 → (s' < s ∨ s' = s ∧ t' < t) → M (56 + s') t' = -1) → mRun (mSx g) (f_X8_clears g) P (58, [some (.inr (some 50)), some (.inl (nI s)), some (.inl (nI t))], [], M)
  | 0, t, M, h, h1, h2 => by
    obtain rfl : t = 5 := by omega
    refine v_cl_58 g M P _ _ ⟨fun _ => ?_, fun w => absurd (nI_le (Nat.le_refl 5) (by decide)) w⟩
    rw [nI_add]
    exact hk M _ h1 (fun s' t' a b c => h2 s' t' a b (by omega))
  | n + 1, t, M, h, h1, h2 => by
    have ct : (nI t).toNatClampNeg = t := nI_clamp (by omega)
    refine v_cl_58 g M P _ _ ⟨fun w => absurd w (nI_ge (by omega) (by decide)), fun _ => ?_⟩
    refine rr_at (i := s) o_named (by decide) hs (ri_at o_named hs (show t < 5 by omega) (by decide) ?_)
    rw [ct, nI_add]
    intro M8
    refine cl_58 g P M0 s hs hk n (t + 1) M8 (by omega) (h1.up (by omega)) (fun s' t' a b c => ?_)
    show mW1 M (56 + s) t _ (56 + s') t' = _
    by_cases e : s' = s
    · subst e
      by_cases e2 : t' = t
      · rw [e2, mW1_s]
      · rw [mW1_k e2]
        exact h2 _ _ a b (by omega)
    · rw [mW1_c (by omega)]
      exact h2 _ _ a b (by omega)
theorem run_X8_clears : mRunOf 3 t_X8_clears f_X8_clears := fun g as M P hT => by
  obtain ⟨q, ⟨rfl, -⟩, hP⟩ := hT
  refine ⟨Nat.le_of_ble_eq_true rfl, ?_⟩
  have hP' : ∀ M', CL M M' → CL2 M' → CL3 M' 8 → P none M' := fun M' a b c => hP M' ⟨a, b, c⟩
  refine v_cl_0 g M P ?_
  intro M1 M2 M3 M4 M5 M6 M7
  refine ⟨vp_in_nI (by decide) (by decide), ?_⟩
  intro M8
  refine ⟨vp_in_nI (by decide) (by decide), ?_⟩
  intro M9
  have k9 : CL M M9 := by
    have f50 : M9 50 = M7 50 := by
      show mW1 (mW1 M7 63 _ _) 63 _ _ 50 = _
      rw [mW1_c (by decide), mW1_c (by decide)]
    have e7 : M7 = mW1 (mW1 (mW1 (mW1 (mW1 (mW1 (mW1 M 50 8 (-1)) 50 9 (-1)) 50 10 (-1)) 50 11 (-1)) 50 12 (nI 0)) 50 13 (nI 0)) 50 19 (nI 0) := rfl
    refine ⟨?_, ?_, fun k h1 h2 => ?_, fun c hc => ?_⟩
    · rw [f50, e7]
      simp (disch := decide) only [mW1_k, mW1_s]
      decide
    · refine ⟨?_, mW1_s⟩
      show mW1 (mW1 M7 63 0 _) 63 1 _ 63 0 = _
      rw [mW1_k (by decide), mW1_s]
      rfl
    · rw [f50, e7, mW1_k h2, mW1_k (by omega), mW1_k (by omega), mW1_k (by omega), mW1_k (by omega), mW1_k (by omega), mW1_k (by omega)]
    · show mW1 (mW1 M7 63 _ _) 63 _ _ c = _
      rw [mW1_c (by omega), mW1_c (by omega), e7, mW1_c (by omega), mW1_c (by omega), mW1_c (by omega), mW1_c (by omega), mW1_c (by omega), mW1_c (by omega), mW1_c (by omega)]
  clear_value M9
  refine v_cl_51 g M9 P _ _ ⟨fun w => absurd w (by decide), fun _ => ?_⟩
  refine cl_58 g P M 0 (by decide) (fun M l2 k1 k2 => ?_) 5 0 M9 rfl k9 (fun s' t' a b c => by omega)
  refine v_cl_51 g M P _ _ ⟨fun w => absurd w (by decide), fun _ => ?_⟩
  refine cl_58 g P _ 1 (by decide) (fun M l2 k1 k2 => ?_) 5 0 M rfl k1 (fun s' t' a b c => k2 s' t' a b (by omega))
  refine v_cl_51 g M P _ _ ⟨fun _ => ?_, fun w => absurd (by decide) w⟩
  exact cl_86 g P _ hP' 8 0 M l2 rfl k1 (fun s t a b => k2 s t a b (by omega)) (fun i hi => absurd hi (Nat.not_lt_zero i))
theorem ok_X8_clears : mOK yX8_clears cX8_clears 3 (none) 1 t_X8_clears := mOK.of f_X8_clears (by decide) (fun _ => rfl) (fun g => mCodeOK kk_X8_clears) (fun g => mFldL fk_RX8 rfl) (fun g idx v h => by cases h) (fun g idx v h => by cases h) (mCalL (l := l_X8_clears) (fun _ h => absurd h List.not_mem_nil) (fun _ => rfl)) run_X8_clears

def pre_X8_begins (q : mM) (as : List mV) (M : mM) : Prop := as = [.inr (some 50)] ∧ q = M
def post_X8_begins (q : mM) (_ : List mV) (M : mM) (M' : mM) : Prop := RmT M' tb0 ∧ FrR M M'
abbrev t_X8_begins : mG → mT := mRv pre_X8_begins post_X8_begins
theorem mo_X8_begins : mMn t_X8_begins := mRv_mono
theorem rv_X8_begins : mHasR yX8_begins 0 t_X8_begins := by
  intro g as M P hT hl
  obtain ⟨q, ⟨h2, -⟩, -⟩ := hT
  exact ⟨_, _, h2, is_X8 g _ rfl⟩
def k_X8_begins : List (Nat × mI) := [(0, .aload_n 0, 1, 0, 0, []),
  (1, .iconst 0, 1, 0, nI 0, []),
  (2, .putfield 100, 3, 0, 0, []),
  (5, .aload_n 0, 1, 0, 0, []),
  (6, .iconst (-1), 1, 0, -1, []),
  (7, .putfield 103, 3, 0, 0, []),
  (10, .aload_n 0, 1, 0, 0, []),
  (11, .iconst 0, 1, 0, nI 0, []),
  (12, .putfield 106, 3, 0, 0, []),
  (15, .aload_n 0, 1, 0, 0, []),
  (16, .iconst 0, 1, 0, nI 0, []),
  (17, .putfield 109, 3, 0, 0, []),
  (20, .aload_n 0, 1, 0, 0, []),
  (21, .iconst 0, 1, 0, nI 0, []),
  (22, .putfield 112, 3, 0, 0, []),
  (25, .aload_n 0, 1, 0, 0, []),
  (26, .invokevirtual 115, 3, 0, 0, []),
  (29, .iconst 0, 1, 0, nI 0, []),
  (30, .istore_n 1, 1, 1, 0, []),
  (31, .iload_n 1, 1, 1, 0, []),
  (32, .iconst 4, 1, 0, nI 4, []),
  (33, .if_icmp .ge 23, 3, 56, 0, []),
  (36, .aload_n 0, 1, 0, 0, []),
  (37, .getfield 27, 3, 0, 0, []),
  (40, .iload_n 1, 1, 1, 0, []),
  (41, .iconst 0, 1, 0, nI 0, []),
  (42, .iastore, 1, 0, 0, []),
  (43, .aload_n 0, 1, 0, 0, []),
  (44, .getfield 30, 3, 0, 0, []),
  (47, .iload_n 1, 1, 1, 0, []),
  (48, .iconst 0, 1, 0, nI 0, []),
  (49, .iastore, 1, 0, 0, []),
  (50, .iinc 1 1, 3, 1, nI 1, []),
  (53, .goto (-22), 3, 31, 0, []),
  (56, .iconst 0, 1, 0, nI 0, []),
  (57, .istore_n 1, 1, 1, 0, []),
  (58, .iload_n 1, 1, 1, 0, []),
  (59, .bipush 6, 2, 0, nI 6, []),
  (61, .if_icmp .ge 27, 3, 88, 0, []),
  (64, .aload_n 0, 1, 0, 0, []),
  (65, .getfield 48, 3, 0, 0, []),
  (68, .iconst 0, 1, 0, nI 0, []),
  (69, .aaload, 1, 1, 0, []),
  (70, .iload_n 1, 1, 1, 0, []),
  (71, .iconst 0, 1, 0, nI 0, []),
  (72, .iastore, 1, 1, 0, []),
  (73, .aload_n 0, 1, 0, 0, []),
  (74, .getfield 48, 3, 0, 0, []),
  (77, .iconst 1, 1, 0, nI 1, []),
  (78, .aaload, 1, 1, 0, []),
  (79, .iload_n 1, 1, 1, 0, []),
  (80, .iconst 0, 1, 0, nI 0, []),
  (81, .iastore, 1, 1, 0, []),
  (82, .iinc 1 1, 3, 1, nI 1, []),
  (85, .goto (-27), 3, 58, 0, []),
  (88, .aload_n 0, 1, 0, 0, []),
  (89, .iconst 0, 1, 0, nI 0, []),
  (90, .putfield 118, 3, 0, 0, []),
  (93, .return_, 1, 0, 0, [])]
theorem kk_X8_begins : (k_X8_begins.all fun e => mChk cX8_begins e.1 e.2) = true := by decide +kernel
def l_X8_begins : List (Nat × Nat × (mG → mT)) := [(3 * 115, 0 + 1, t_X8_clears)]
def f_X8_begins (g : mG) : mF := (mLk k_X8_begins, mLk fl_RX8, mLk (l_X8_begins.map fun e => (e.1, e.2.1, e.2.2 g)), mLk ([] : List (Nat × mV)), mLk ([] : List (Nat × mV)), none)
theorem m_X8_begins (g : mG) : mMono (f_X8_begins g) := mMonoL (g := g) (l := l_X8_begins) (List.forall_mem_cons.mpr ⟨mo_X8_clears, fun _ h => absurd h List.not_mem_nil⟩) rfl

theorem v_be_0 (g : mG) (M : mM) (P : mP) 
    (h : let M1 : mM := mW1 M 50 5 (nI 0); let M2 : mM := mW1 M1 50 6 (-1); let M3 : mM := mW1 M2 50 7 (nI 0); let M4 : mM := mW1 M3 50 14 (nI 0); let M5 : mM := mW1 M4 50 15 (nI 0); ∃ x6 : mM, pre_X8_clears x6 [.inr (some 50)] M5 ∧ ∀ M7 : mM, post_X8_clears x6 [.inr (some 50)] M5 M7 → (mRun (mSx g) (f_X8_begins g) P (31, [some (.inr (some 50)), some (.inl (nI 0))], [], M7))) :
    mRun (mSx g) (f_X8_begins g) P (0, [some (.inr (some 50)), none], [], M) := mRun.vc (m_X8_begins g) [31] 20 h

theorem v_be_31 (g : mG) (M : mM) (P : mP) (i : Int32)
    (h : ((nI 4) ≤ i → mRun (mSx g) (f_X8_begins g) P (58, [some (.inr (some 50)), some (.inl (nI 0))], [], M)) ∧ (¬ ((nI 4) ≤ i) → vp_in i 4 ∧ (let M2 : mM := mW1 M 58 i.toNatClampNeg (nI 0); vp_in i 4 ∧ (let M3 : mM := mW1 M2 59 i.toNatClampNeg (nI 0); mRun (mSx g) (f_X8_begins g) P (31, [some (.inr (some 50)), some (.inl (i + (nI 1)))], [], M3))))) :
    mRun (mSx g) (f_X8_begins g) P (31, [some (.inr (some 50)), some (.inl i)], [], M) := mRun.vc (m_X8_begins g) [31, 58] 16 h

theorem v_be_58 (g : mG) (M : mM) (P : mP) (i : Int32)
    (h : ((nI 6) ≤ i → ((nI 0) = 0 ∨ (nI 0) = 1) ∧ (let M2 : mM := mW1 M 50 26 (nI 0); P none M2)) ∧ (¬ ((nI 6) ≤ i) → ∃ (n3 k4 c5 : Nat) (rs6 : List (Option Nat)), (mSx g)[73]? = some (1, n3, rs6) ∧ (nI 0) = nI k4 ∧ k4 < n3 ∧ n3 < 2 ^ 31 ∧ rs6[k4]? = some (some c5) ∧ (∃ (n7 : Nat) (rs8 : List (Option Nat)), (mSx g)[c5]? = some (0, n7, rs8) ∧ vp_in i n7 ∧ (let M9 : mM := mW1 M c5 i.toNatClampNeg (nI 0); ∃ (n10 k11 c12 : Nat) (rs13 : List (Option Nat)), (mSx g)[73]? = some (1, n10, rs13) ∧ (nI 1) = nI k11 ∧ k11 < n10 ∧ n10 < 2 ^ 31 ∧ rs13[k11]? = some (some c12) ∧ (∃ (n14 : Nat) (rs15 : List (Option Nat)), (mSx g)[c12]? = some (0, n14, rs15) ∧ vp_in i n14 ∧ (let M16 : mM := mW1 M9 c12 i.toNatClampNeg (nI 0); mRun (mSx g) (f_X8_begins g) P (58, [some (.inr (some 50)), some (.inl (i + (nI 1)))], [], M16))))))) :
    mRun (mSx g) (f_X8_begins g) P (58, [some (.inr (some 50)), some (.inl i)], [], M) := mRun.vc (m_X8_begins g) [58] 20 h

def BE (M0 M : mM) : Prop := ∀ c, ¬ (c = 58 ∨ c = 59 ∨ c = 74 ∨ c = 75) → M c = M0 c
theorem BE.up {M0 M : mM} {c k : Nat} {v : Int32} (h : BE M0 M) (hc : c = 58 ∨ c = 59 ∨ c = 74 ∨ c = 75) : BE M0 (mW1 M c k v) := fun d hd => (mW1_c (by omega)).trans (h d hd)
theorem be_58 (g : mG) (P : mP) (M0 : mM) (hP : ∀ M', BE M0 M' → (∀ q, q < 4 → M' 58 q = 0 ∧ M' 59 q = 0) → (∀ s h, s < 2 → h < 6 → M' (74 + s) h = 0) → P none (mW1 M' 50 26 (nI 0))) : ∀ (n i : Nat) (M : mM), i + n = 6 → BE M0 M → (∀ q, q < 4 → M 58 q = 0 ∧ M 59 q = 0) → (∀ s h, s < 2 → h < i → M (74 + s) h = 0) → mRun (mSx g) (f_X8_begins g) P (58, [some (.inr (some 50)), some (.inl (nI i))], [], M)
  | 0, i, M, h, h1, h2, h3 => by
    obtain rfl : i = 6 := by omega
    exact v_be_58 g M P _ ⟨fun _ => ⟨Or.inl rfl, hP M h1 h2 h3⟩, fun w => absurd (nI_le (Nat.le_refl 6) (by decide)) w⟩
  | n + 1, i, M, h, h1, h2, h3 => by
    have ci : (nI i).toNatClampNeg = i := nI_clamp (by omega)
    refine v_be_58 g M P _ ⟨fun w => absurd w (nI_ge (by omega) (by decide)), fun _ => ?_⟩
    rw [ci, nI_add]
    refine rr_at (i := 0) o_totals (by decide) (by decide) (ri_at o_totals (by decide) (show i < 6 by omega) (by decide) ?_)
    intro M9
    refine rr_at (i := 1) o_totals (by decide) (by decide) (ri_at o_totals (by decide) (show i < 6 by omega) (by decide) ?_)
    intro M16
    refine be_58 g P M0 hP n (i + 1) M16 (by omega) ((h1.up (by decide)).up (by decide)) (fun q hq => ?_) (fun s t hs ht => ?_)
    · show mW1 (mW1 M 74 i _) 75 i _ 58 q = _ ∧ mW1 (mW1 M 74 i _) 75 i _ 59 q = _
      rw [mW1_c (by decide), mW1_c (by decide), mW1_c (by decide), mW1_c (by decide)]
      exact h2 q hq
    · show mW1 (mW1 M 74 i _) 75 i _ (74 + s) t = _
      rcases (by omega : s = 0 ∨ s = 1) with rfl | rfl
      · rw [mW1_c (by decide)]
        by_cases e : t = i
        · rw [e]
          exact mW1_s
        · exact (mW1_k e).trans (h3 0 t (by decide) (by omega))
      · by_cases e : t = i
        · rw [e]
          exact mW1_s
        · exact (mW1_k e).trans ((congrFun (mW1_c (by decide)) t).trans (h3 1 t (by decide) (by omega)))
theorem be_31 (g : mG) (P : mP) (M0 : mM) (hP : ∀ M', BE M0 M' → (∀ q, q < 4 → M' 58 q = 0 ∧ M' 59 q = 0) → (∀ s h, s < 2 → h < 6 → M' (74 + s) h = 0) → P none (mW1 M' 50 26 (nI 0))) : ∀ (n i : Nat) (M : mM), i + n = 4 → BE M0 M → (∀ q, q < i → M 58 q = 0 ∧ M 59 q = 0) → mRun (mSx g) (f_X8_begins g) P (31, [some (.inr (some 50)), some (.inl (nI i))], [], M)
  | 0, i, M, h, h1, h2 => by
    obtain rfl : i = 4 := by omega
    exact v_be_31 g M P _ ⟨fun _ => be_58 g P M0 hP 6 0 M rfl h1 h2 (fun s t _ ht => absurd ht (Nat.not_lt_zero t)), fun w => absurd (nI_le (Nat.le_refl 4) (by decide)) w⟩
  | n + 1, i, M, h, h1, h2 => by
    have ci : (nI i).toNatClampNeg = i := nI_clamp (by omega)
    refine v_be_31 g M P _ ⟨fun w => absurd w (nI_ge (by omega) (by decide)), fun _ => ?_⟩
    rw [ci, nI_add]
    refine ⟨vp_in_nI (by omega) (by decide), ?_⟩
    intro M2
    refine ⟨vp_in_nI (by omega) (by decide), ?_⟩
    intro M3
    refine be_31 g P M0 hP n (i + 1) M3 (by omega) ((h1.up (by decide)).up (by decide)) (fun q hq => ?_)
    show mW1 (mW1 M 58 i _) 59 i _ 58 q = _ ∧ mW1 (mW1 M 58 i _) 59 i _ 59 q = _
    rw [mW1_c (by decide)]
    by_cases e : q = i
    · subst e
      exact ⟨mW1_s, mW1_s⟩
    · rw [mW1_k e, mW1_k e, mW1_c (by decide)]
      exact h2 q (by omega)
theorem aWn_0 {x : aX} {cs : List Nat} {s : Nat} : nI (aWn x cs s (0 / 4)) + 0 = 0 := rfl
/-- no card played, nothing won -/
theorem RmP_nil {M : mM} {x : aX} {dl : Nat → Int32} (h19 : M 50 19 = 0) (h58 : ∀ q, q < 4 → M 58 q = dl q ∧ M 59 q = dl q) (h3 : CL3 M 8) (h63 : M 63 0 = 0 ∧ M 63 1 = 0) : RmP M x dl 0 0 [] := by
  refine ⟨h19, fun q hq => ?_, fun q hq => (h58 q hq).2, fun i hi => ?_, fun i j _ h => absurd h (Nat.not_lt_zero _), fun i h => absurd h (Nat.not_lt_zero _), fun i hi => ?_, h63.1, h63.2⟩
  · rw [aHd_nil]
    exact (h58 q hq).1
  · rw [(h3 i hi).1, show min 4 (([] : List Nat).length - 4 * i) = 0 by simp]
    rfl
  · exact (h3 i hi).2.2
theorem run_X8_begins : mRunOf 2 t_X8_begins f_X8_begins := fun g as M P hT => by
  obtain ⟨q, ⟨rfl, -⟩, hP⟩ := hT
  refine ⟨Nat.le_of_ble_eq_true rfl, ?_⟩
  refine v_be_0 g M P ?_
  intro M1 M2 M3 M4 M5
  have e5 : M5 = mW1 (mW1 (mW1 (mW1 (mW1 M 50 5 (nI 0)) 50 6 (-1)) 50 7 (nI 0)) 50 14 (nI 0)) 50 15 (nI 0) := rfl
  refine ⟨M5, ⟨rfl, rfl⟩, fun M7 h7 => ?_⟩
  obtain ⟨⟨k1, k2, k3, k4⟩, k5, k6⟩ := h7
  clear_value M5
  refine be_31 g P M7 (fun M' a1 a2 a3 => hP _ ?_) 4 0 M7 rfl (fun _ _ => rfl) (fun q hq => absurd hq (Nat.not_lt_zero q))
  have f50 : ∀ k, k ≠ 26 → mW1 M' 50 26 (nI 0) 50 k = M7 50 k := fun k hk => (mW1_k hk).trans (congrFun (a1 50 (by decide)) k)
  have fc : ∀ c, c ≠ 50 → mW1 M' 50 26 (nI 0) c = M' c := fun c hc => mW1_c hc
  have g50 : ∀ k, ¬ (8 ≤ k ∧ k ≤ 13) → k ≠ 19 → k ≠ 26 → mW1 M' 50 26 (nI 0) 50 k = M5 50 k := fun k h1 h2 h3 => (f50 k h3).trans (k3 k h1 h2)
  refine ⟨⟨⟨?_, ?_, ?_, ?_, ?_⟩, ⟨?_, ?_, ?_, ?_, ?_, ?_, fun s t hs ht => ?_⟩, RmP_nil ?_ (fun q hq => ?_) (fun i hi => ?_) ?_, ⟨mW1_s, fun q hq => (by cases hq), fun s t hs ht => ?_⟩, fun h => by cases h⟩, fun c hc => ?_, fun k hk => ?_⟩
  · rw [g50 5 (by decide) (by decide) (by decide), e5]
    simp (disch := decide) only [mW1_k, mW1_s]
    rfl
  · rw [g50 6 (by decide) (by decide) (by decide), e5]
    simp (disch := decide) only [mW1_k, mW1_s]
    rfl
  · rw [g50 7 (by decide) (by decide) (by decide), e5]
    simp (disch := decide) only [mW1_k, mW1_s]
    rfl
  · rw [g50 14 (by decide) (by decide) (by decide), e5]
    simp (disch := decide) only [mW1_k, mW1_s]
    rfl
  · rw [g50 15 (by decide) (by decide) (by decide), e5]
    simp (disch := decide) only [mW1_k, mW1_s]
    rfl
  · exact (f50 8 (by decide)).trans k1.1
  · exact (f50 9 (by decide)).trans k1.2.1
  · exact (f50 10 (by decide)).trans k1.2.2.1
  · exact (f50 11 (by decide)).trans k1.2.2.2.1
  · exact (f50 12 (by decide)).trans k1.2.2.2.2.1
  · exact (f50 13 (by decide)).trans k1.2.2.2.2.2.1
  · rw [fc (56 + s) (by omega), a1 (56 + s) (by omega)]
    exact k5 s t hs ht
  · exact (f50 19 (by decide)).trans k1.2.2.2.2.2.2
  · rw [fc 58 (by decide), fc 59 (by decide)]
    exact a2 q hq
  · rw [fc 61 (by decide), fc 60 (by decide), fc 62 (by decide), a1 61 (by decide), a1 60 (by decide), a1 62 (by decide)]
    exact k6 i hi
  · rw [fc 63 (by decide), a1 63 (by decide)]
    exact k2
  · rw [fc (74 + s) (by omega)]
    exact a3 s t hs ht
  · rw [fc c (by omega), a1 c (by omega), k4 c (by omega), e5, mW1_c (by omega), mW1_c (by omega), mW1_c (by omega), mW1_c (by omega), mW1_c (by omega)]
  · rw [g50 k (by omega) (by omega) (by omega), e5, mW1_k (by omega), mW1_k (by omega), mW1_k (by omega), mW1_k (by omega), mW1_k (by omega)]
theorem ok_X8_begins : mOK yX8_begins cX8_begins 2 (none) 2 t_X8_begins := mOK.of f_X8_begins (by decide) (fun _ => rfl) (fun g => mCodeOK kk_X8_begins) (fun g => mFldL fk_RX8 rfl) (fun g idx v h => by cases h) (fun g idx v h => by cases h) (mCalL (l := l_X8_begins) (List.forall_mem_cons.mpr ⟨mSite.V (idx := 115) ok_X8_clears (by decide) (by decide) rv_X8_clears wc_X8_clears wk_RX8_115 wi_X8_clears wl_X8_clears wn_RX8 wd_X8_clears, fun _ h => absurd h List.not_mem_nil⟩) (fun _ => rfl)) run_X8_begins

