/-! ===== CLASS Scores: a deal is scored ===== -/
def pre_X3_settle (q : Nat × aBd × aSc × Nat) (as : List mV) (M : mM) : Prop := (q.1 = 13 ∨ q.1 = 26) ∧ as = [.inr (some (q.1 + 11)), .inr (some (q.1 + 1)), .inl (nI q.2.2.2)] ∧ RpB (q.1 + 1) M q.2.1 ∧ RpSc (q.1 + 11) M q.2.2.1 ∧ q.2.1.2.1.isSome = true
def post_X3_settle (q : Nat × aBd × aSc × Nat) (_ : List mV) (M : mM) (M' : mM) : Prop := RpSc (q.1 + 11) M' (sSet q.2.2.1 q.2.1 q.2.2.2) ∧ ∀ c, c ≠ q.1 + 11 → c ≠ q.1 + 12 → M' c = M c
abbrev t_X3_settle : mG → mT := mRv pre_X3_settle post_X3_settle
theorem mo_X3_settle : mMn t_X3_settle := mRv_mono
theorem rv_X3_settle : mHasR yX3_settle 2 t_X3_settle := by
  intro g as M P hT hl
  obtain ⟨q, ⟨h1, h2, -⟩, -⟩ := hT
  refine ⟨_, _, h2, is_X3 g _ ?_⟩
  rcases h1 with h1 | h1 <;> rw [h1] <;> rfl
def k_X3_settle : List (Nat × mI) := [(0, .aload_n 0, 1, 0, 0, []),
  (1, .iconst 1, 1, 0, nI 1, []),
  (2, .putfield 19, 3, 0, 0, []),
  (5, .aload_n 0, 1, 0, 0, []),
  (6, .iload_n 2, 1, 2, 0, []),
  (7, .putfield 23, 3, 0, 0, []),
  (10, .aload_n 0, 1, 0, 0, []),
  (11, .aload_n 1, 1, 1, 0, []),
  (12, .getfield 27, 3, 0, 0, []),
  (15, .putfield 32, 3, 0, 0, []),
  (18, .aload_n 0, 1, 0, 0, []),
  (19, .aload_n 1, 1, 1, 0, []),
  (20, .getfield 33, 3, 0, 0, []),
  (23, .putfield 36, 3, 0, 0, []),
  (26, .aload_n 0, 1, 0, 0, []),
  (27, .aload_n 1, 1, 1, 0, []),
  (28, .getfield 37, 3, 0, 0, []),
  (31, .putfield 40, 3, 0, 0, []),
  (34, .iconst 0, 1, 0, nI 0, []),
  (35, .istore_n 3, 1, 3, 0, []),
  (36, .iload_n 3, 1, 3, 0, []),
  (37, .bipush 6, 2, 0, nI 6, []),
  (39, .if_icmp .ge 59, 3, 98, 0, []),
  (42, .aload_n 1, 1, 1, 0, []),
  (43, .getfield 41, 3, 0, 0, []),
  (46, .bipush 6, 2, 0, nI 6, []),
  (48, .imul, 1, 0, 0, []),
  (49, .iload_n 3, 1, 3, 0, []),
  (50, .iadd, 1, 0, 0, []),
  (51, .istore 4, 2, 4, 0, []),
  (53, .aload_n 0, 1, 0, 0, []),
  (54, .getfield 9, 3, 0, 0, []),
  (57, .iload 4, 2, 4, 0, []),
  (59, .aload_n 0, 1, 0, 0, []),
  (60, .getfield 9, 3, 0, 0, []),
  (63, .iload 4, 2, 4, 0, []),
  (65, .invokestatic 44, 3, 0, 0, []),
  (68, .iload_n 3, 1, 3, 0, []),
  (69, .aload_n 0, 1, 0, 0, []),
  (70, .getfield 23, 3, 0, 0, []),
  (73, .aload_n 0, 1, 0, 0, []),
  (74, .getfield 32, 3, 0, 0, []),
  (77, .aload_n 0, 1, 0, 0, []),
  (78, .getfield 36, 3, 0, 0, []),
  (81, .aload_n 0, 1, 0, 0, []),
  (82, .getfield 40, 3, 0, 0, []),
  (85, .invokestatic 48, 3, 0, 0, []),
  (88, .iadd, 1, 0, 0, []),
  (89, .invokestatic 52, 3, 0, 0, []),
  (92, .iinc 3 1, 3, 3, nI 1, []),
  (95, .goto (-59), 3, 36, 0, []),
  (98, .return_, 1, 0, 0, [])]
theorem kk_X3_settle : (k_X3_settle.all fun e => mChk cX3_settle e.1 e.2) = true := by decide +kernel
def l_X3_settle : List (Nat × Nat × (mG → mT)) := [(3 * 44 + 1, 2, t_X7_at), (3 * 48 + 1, 5, t_X7_scoreBy), (3 * 52 + 1, 3, t_X7_set)]
def f_X3_settle (g : mG) : mF := (mLk k_X3_settle, mLk fl_RX3, mLk (l_X3_settle.map fun e => (e.1, e.2.1, e.2.2 g)), mLk ([] : List (Nat × mV)), mLk ([] : List (Nat × mV)), none)
theorem m_X3_settle (g : mG) : mMono (f_X3_settle g) := mMonoL (g := g) (l := l_X3_settle) (List.forall_mem_cons.mpr ⟨mo_X7_at, List.forall_mem_cons.mpr ⟨mo_X7_scoreBy, List.forall_mem_cons.mpr ⟨mo_X7_set, fun _ h => absurd h List.not_mem_nil⟩⟩⟩) rfl

theorem v_se_0_13 (g : mG) (M : mM) (P : mP) (m : Int32)
    (h : ((nI 1) = 0 ∨ (nI 1) = 1) ∧ (let M1 : mM := mW1 M 24 1 (nI 1); let M2 : mM := mW1 M1 24 2 m; let M3 : mM := mW1 M2 24 3 (M 14 2); let M4 : mM := mW1 M3 24 4 (M 14 3); let M5 : mM := mW1 M4 24 5 (M 14 5); mRun (mSx g) (f_X3_settle g) P (36, [some (.inr (some 24)), some (.inr (some 14)), some (.inl m), some (.inl (nI 0)), none], [], M5))) :
    mRun (mSx g) (f_X3_settle g) P (0, [some (.inr (some 24)), some (.inr (some 14)), some (.inl m), none, none], [], M) := mRun.vc (m_X3_settle g) [36] 21 h

theorem v_se_36_13 (g : mG) (M : mM) (P : mP) (m k : Int32) (l4 : Option mV)
    (h : ((nI 6) ≤ k → P none M) ∧ (¬ (nI 6) ≤ k → let M1 : mM := mUp M 25 (aSet (M 25) 12 (((M 14 4) * (nI 6)) + k) ((aAt (M 25) 12 (((M 14 4) * (nI 6)) + k)) + (fScore k (M 24 2) (M 24 3) (M 24 4) (M 24 5)))); mRun (mSx g) (f_X3_settle g) P (36, [some (.inr (some 24)), some (.inr (some 14)), some (.inl m), some (.inl (k + (nI 1))), some (.inl (((M 14 4) * (nI 6)) + k))], [], M1))) :
    mRun (mSx g) (f_X3_settle g) P (36, [some (.inr (some 24)), some (.inr (some 14)), some (.inl m), some (.inl k), l4], [], M) := mRun.vc (m_X3_settle g) [36] 32 h

theorem se_loop_13 (g : mG) (P : mP) (M0 : mM) (s0 : Nat → Int32) (y : Int32) (m n u e sd : Nat) (hsd : sd < 2) (h1 : M0 14 4 = nI sd) (h2 : M0 24 2 = nI m) (h3 : M0 24 3 = nI n) (h4 : M0 24 4 = nI u) (h5 : M0 24 5 = nI e)
    (hP : ∀ M' : mM, (∀ c, c ≠ 25 → M' c = M0 c) → (∀ j, j < 12 → M' 25 j = if j / 6 = sd then s0 j + fScore (nI (j % 6)) (nI m) (nI n) (nI u) (nI e) else s0 j) → P none M') :
    ∀ (i k : Nat) (M : mM) (l4 : Option mV), k + i = 6 → (∀ c, c ≠ 25 → M c = M0 c) → (∀ j, j < 12 → M 25 j = if j / 6 = sd ∧ j % 6 < k then s0 j + fScore (nI (j % 6)) (nI m) (nI n) (nI u) (nI e) else s0 j) →
    mRun (mSx g) (f_X3_settle g) P (36, [some (.inr (some 24)), some (.inr (some 14)), some (.inl y), some (.inl (nI k)), l4], [], M) := by
  intro i
  induction i with
  | zero =>
    intro k M l4 hk hF hA
    obtain rfl : k = 6 := by omega
    refine v_se_36_13 g M P _ _ _ ⟨fun _ => hP M hF (fun j hj => ?_), fun w => absurd (Int32.le_refl _) w⟩
    rw [hA j hj]
    by_cases q : j / 6 = sd
    · rw [if_pos q, if_pos ⟨q, by omega⟩]
    · rw [if_neg q, if_neg (fun z => q z.1)]
  | succ i ih =>
    intro k M l4 hk hF hA
    refine v_se_36_13 g M P _ _ _ ⟨fun w => absurd w (nI_ge (by omega) (by decide)), fun _ => ?_⟩
    rw [hF 14 (by decide), hF 24 (by decide), h1, h2, h3, h4, h5, pk_mul, nI_add, nI_add, aAt_in (by omega) (by decide), aSet_in (by omega) (by decide)]
    intro M1
    refine ih (k + 1) M1 _ (by omega) (fun c hc => (mUp_ne hc).trans (hF c hc)) (fun j hj => ?_)
    show mUp M 25 _ 25 j = _
    rw [mUp_at]
    by_cases q : j = sd * 6 + k
    · rw [q, upd_s, hA _ (by omega), if_neg (fun z => by have := z.2; omega), if_pos ⟨by omega, by omega⟩, show (sd * 6 + k) % 6 = k by omega]
    · rw [upd_n q, hA j hj]
      by_cases r : j / 6 = sd ∧ j % 6 < k
      · rw [if_pos r, if_pos ⟨r.1, by have := r.2; omega⟩]
      · rw [if_neg r, if_neg (fun z => r ⟨z.1, by have := z.1; have := z.2; omega⟩)]
theorem se_run_13 (g : mG) (P : mP) (M : mM) (b : aBd) (s : aSc) (m : Nat) (hB : RpB 14 M b) (hS : RpSc 24 M s) (hq : b.2.1.isSome = true) (hP : ∀ M', post_X3_settle (13, b, s, m) [] M M' → P none M') :
    mRun (mSx g) (f_X3_settle g) P (0, [some (.inr (some 24)), some (.inr (some 14)), some (.inl (nI m)), none, none], [], M) := by
  obtain ⟨⟨tu, db, ps⟩, o, dc, nm⟩ := b
  cases o with
  | none => exact absurd (show false = true from hq) (by decide)
  | some w =>
  obtain ⟨n, u, q⟩ := w
  obtain ⟨s1, s0⟩ := s
  obtain ⟨b1, b5, b6, b2, b3, b4, b7, b8⟩ := hB
  obtain ⟨-, -, k3⟩ := hS
  dsimp only [Option.map, oI] at b2 b3 b4 b5 k3
  refine v_se_0_13 g M P _ ⟨Or.inr rfl, ?_⟩
  rw [b2, b3, b5]
  intro M1 M2 M3 M4 M5
  have f : ∀ c, c ≠ 24 → M5 c = M c := fun c h => by
    show mW1 (mW1 (mW1 (mW1 (mW1 M 24 1 _) 24 2 _) 24 3 _) 24 4 _) 24 5 _ c = _
    rw [mW1_c h, mW1_c h, mW1_c h, mW1_c h, mW1_c h]
  have g1 : M5 24 1 = 1 := by
    show mW1 (mW1 (mW1 (mW1 (mW1 M 24 1 _) 24 2 _) 24 3 _) 24 4 _) 24 5 _ 24 1 = _
    rw [mW1_k (by decide), mW1_k (by decide), mW1_k (by decide), mW1_k (by decide), mW1_s]
    rfl
  have g2 : M5 24 2 = nI m := by
    show mW1 (mW1 (mW1 (mW1 (mW1 M 24 1 _) 24 2 _) 24 3 _) 24 4 _) 24 5 _ 24 2 = _
    rw [mW1_k (by decide), mW1_k (by decide), mW1_k (by decide), mW1_s]
  have g3 : M5 24 3 = nI n := by
    show mW1 (mW1 (mW1 (mW1 (mW1 M 24 1 _) 24 2 _) 24 3 _) 24 4 _) 24 5 _ 24 3 = _
    rw [mW1_k (by decide), mW1_k (by decide), mW1_s]
  have g4 : M5 24 4 = nI u := by
    show mW1 (mW1 (mW1 (mW1 (mW1 M 24 1 _) 24 2 _) 24 3 _) 24 4 _) 24 5 _ 24 4 = _
    rw [mW1_k (by decide), mW1_s]
  have g5 : M5 24 5 = nI db := mW1_s
  refine se_loop_13 g P M5 s0 (nI m) m n u db (q % 2) (Nat.mod_lt _ (by decide)) ((congrFun (f 14 (by decide)) 4).trans b4) g2 g3 g4 g5 (fun M' hF hA => hP M' ?_) 6 0 M5 none rfl (fun _ _ => rfl) (fun j hj => ?_)
  · refine ⟨⟨?_, fun w hw => ?_, fun j hj => hA j hj⟩, fun c h1 h2 => (hF c h2).trans (f c h1)⟩
    · exact (congrFun (hF 24 (by decide)) 1).trans g1
    · obtain rfl : (m, n, u, db) = w := Option.some.inj hw
      show M' 24 2 = nI m ∧ M' 24 3 = nI n ∧ M' 24 4 = nI u ∧ M' 24 5 = nI db
      rw [hF 24 (by decide)]
      exact ⟨g2, g3, g4, g5⟩
  · rw [if_neg (fun z => absurd z.2 (Nat.not_lt_zero _)), f 25 (by decide)]
    exact k3 j hj
theorem v_se_0_26 (g : mG) (M : mM) (P : mP) (m : Int32)
    (h : ((nI 1) = 0 ∨ (nI 1) = 1) ∧ (let M1 : mM := mW1 M 37 1 (nI 1); let M2 : mM := mW1 M1 37 2 m; let M3 : mM := mW1 M2 37 3 (M 27 2); let M4 : mM := mW1 M3 37 4 (M 27 3); let M5 : mM := mW1 M4 37 5 (M 27 5); mRun (mSx g) (f_X3_settle g) P (36, [some (.inr (some 37)), some (.inr (some 27)), some (.inl m), some (.inl (nI 0)), none], [], M5))) :
    mRun (mSx g) (f_X3_settle g) P (0, [some (.inr (some 37)), some (.inr (some 27)), some (.inl m), none, none], [], M) := mRun.vc (m_X3_settle g) [36] 21 h

theorem v_se_36_26 (g : mG) (M : mM) (P : mP) (m k : Int32) (l4 : Option mV)
    (h : ((nI 6) ≤ k → P none M) ∧ (¬ (nI 6) ≤ k → let M1 : mM := mUp M 38 (aSet (M 38) 12 (((M 27 4) * (nI 6)) + k) ((aAt (M 38) 12 (((M 27 4) * (nI 6)) + k)) + (fScore k (M 37 2) (M 37 3) (M 37 4) (M 37 5)))); mRun (mSx g) (f_X3_settle g) P (36, [some (.inr (some 37)), some (.inr (some 27)), some (.inl m), some (.inl (k + (nI 1))), some (.inl (((M 27 4) * (nI 6)) + k))], [], M1))) :
    mRun (mSx g) (f_X3_settle g) P (36, [some (.inr (some 37)), some (.inr (some 27)), some (.inl m), some (.inl k), l4], [], M) := mRun.vc (m_X3_settle g) [36] 32 h

theorem se_loop_26 (g : mG) (P : mP) (M0 : mM) (s0 : Nat → Int32) (y : Int32) (m n u e sd : Nat) (hsd : sd < 2) (h1 : M0 27 4 = nI sd) (h2 : M0 37 2 = nI m) (h3 : M0 37 3 = nI n) (h4 : M0 37 4 = nI u) (h5 : M0 37 5 = nI e)
    (hP : ∀ M' : mM, (∀ c, c ≠ 38 → M' c = M0 c) → (∀ j, j < 12 → M' 38 j = if j / 6 = sd then s0 j + fScore (nI (j % 6)) (nI m) (nI n) (nI u) (nI e) else s0 j) → P none M') :
    ∀ (i k : Nat) (M : mM) (l4 : Option mV), k + i = 6 → (∀ c, c ≠ 38 → M c = M0 c) → (∀ j, j < 12 → M 38 j = if j / 6 = sd ∧ j % 6 < k then s0 j + fScore (nI (j % 6)) (nI m) (nI n) (nI u) (nI e) else s0 j) →
    mRun (mSx g) (f_X3_settle g) P (36, [some (.inr (some 37)), some (.inr (some 27)), some (.inl y), some (.inl (nI k)), l4], [], M) := by
  intro i
  induction i with
  | zero =>
    intro k M l4 hk hF hA
    obtain rfl : k = 6 := by omega
    refine v_se_36_26 g M P _ _ _ ⟨fun _ => hP M hF (fun j hj => ?_), fun w => absurd (Int32.le_refl _) w⟩
    rw [hA j hj]
    by_cases q : j / 6 = sd
    · rw [if_pos q, if_pos ⟨q, by omega⟩]
    · rw [if_neg q, if_neg (fun z => q z.1)]
  | succ i ih =>
    intro k M l4 hk hF hA
    refine v_se_36_26 g M P _ _ _ ⟨fun w => absurd w (nI_ge (by omega) (by decide)), fun _ => ?_⟩
    rw [hF 27 (by decide), hF 37 (by decide), h1, h2, h3, h4, h5, pk_mul, nI_add, nI_add, aAt_in (by omega) (by decide), aSet_in (by omega) (by decide)]
    intro M1
    refine ih (k + 1) M1 _ (by omega) (fun c hc => (mUp_ne hc).trans (hF c hc)) (fun j hj => ?_)
    show mUp M 38 _ 38 j = _
    rw [mUp_at]
    by_cases q : j = sd * 6 + k
    · rw [q, upd_s, hA _ (by omega), if_neg (fun z => by have := z.2; omega), if_pos ⟨by omega, by omega⟩, show (sd * 6 + k) % 6 = k by omega]
    · rw [upd_n q, hA j hj]
      by_cases r : j / 6 = sd ∧ j % 6 < k
      · rw [if_pos r, if_pos ⟨r.1, by have := r.2; omega⟩]
      · rw [if_neg r, if_neg (fun z => r ⟨z.1, by have := z.1; have := z.2; omega⟩)]
theorem se_run_26 (g : mG) (P : mP) (M : mM) (b : aBd) (s : aSc) (m : Nat) (hB : RpB 27 M b) (hS : RpSc 37 M s) (hq : b.2.1.isSome = true) (hP : ∀ M', post_X3_settle (26, b, s, m) [] M M' → P none M') :
    mRun (mSx g) (f_X3_settle g) P (0, [some (.inr (some 37)), some (.inr (some 27)), some (.inl (nI m)), none, none], [], M) := by
  obtain ⟨⟨tu, db, ps⟩, o, dc, nm⟩ := b
  cases o with
  | none => exact absurd (show false = true from hq) (by decide)
  | some w =>
  obtain ⟨n, u, q⟩ := w
  obtain ⟨s1, s0⟩ := s
  obtain ⟨b1, b5, b6, b2, b3, b4, b7, b8⟩ := hB
  obtain ⟨-, -, k3⟩ := hS
  dsimp only [Option.map, oI] at b2 b3 b4 b5 k3
  refine v_se_0_26 g M P _ ⟨Or.inr rfl, ?_⟩
  rw [b2, b3, b5]
  intro M1 M2 M3 M4 M5
  have f : ∀ c, c ≠ 37 → M5 c = M c := fun c h => by
    show mW1 (mW1 (mW1 (mW1 (mW1 M 37 1 _) 37 2 _) 37 3 _) 37 4 _) 37 5 _ c = _
    rw [mW1_c h, mW1_c h, mW1_c h, mW1_c h, mW1_c h]
  have g1 : M5 37 1 = 1 := by
    show mW1 (mW1 (mW1 (mW1 (mW1 M 37 1 _) 37 2 _) 37 3 _) 37 4 _) 37 5 _ 37 1 = _
    rw [mW1_k (by decide), mW1_k (by decide), mW1_k (by decide), mW1_k (by decide), mW1_s]
    rfl
  have g2 : M5 37 2 = nI m := by
    show mW1 (mW1 (mW1 (mW1 (mW1 M 37 1 _) 37 2 _) 37 3 _) 37 4 _) 37 5 _ 37 2 = _
    rw [mW1_k (by decide), mW1_k (by decide), mW1_k (by decide), mW1_s]
  have g3 : M5 37 3 = nI n := by
    show mW1 (mW1 (mW1 (mW1 (mW1 M 37 1 _) 37 2 _) 37 3 _) 37 4 _) 37 5 _ 37 3 = _
    rw [mW1_k (by decide), mW1_k (by decide), mW1_s]
  have g4 : M5 37 4 = nI u := by
    show mW1 (mW1 (mW1 (mW1 (mW1 M 37 1 _) 37 2 _) 37 3 _) 37 4 _) 37 5 _ 37 4 = _
    rw [mW1_k (by decide), mW1_s]
  have g5 : M5 37 5 = nI db := mW1_s
  refine se_loop_26 g P M5 s0 (nI m) m n u db (q % 2) (Nat.mod_lt _ (by decide)) ((congrFun (f 27 (by decide)) 4).trans b4) g2 g3 g4 g5 (fun M' hF hA => hP M' ?_) 6 0 M5 none rfl (fun _ _ => rfl) (fun j hj => ?_)
  · refine ⟨⟨?_, fun w hw => ?_, fun j hj => hA j hj⟩, fun c h1 h2 => (hF c h2).trans (f c h1)⟩
    · exact (congrFun (hF 37 (by decide)) 1).trans g1
    · obtain rfl : (m, n, u, db) = w := Option.some.inj hw
      show M' 37 2 = nI m ∧ M' 37 3 = nI n ∧ M' 37 4 = nI u ∧ M' 37 5 = nI db
      rw [hF 37 (by decide)]
      exact ⟨g2, g3, g4, g5⟩
  · rw [if_neg (fun z => absurd z.2 (Nat.not_lt_zero _)), f 38 (by decide)]
    exact k3 j hj
theorem run_X3_settle : mRunOf 5 t_X3_settle f_X3_settle := fun g as M P hT => by
  obtain ⟨⟨t, b, s, m⟩, ⟨h1, rfl, h3, h4, h5⟩, hP⟩ := hT
  refine ⟨Nat.le_of_ble_eq_true rfl, ?_⟩
  dsimp only at h1 h3 h4 h5
  rcases h1 with rfl | rfl
  · exact se_run_13 g P M b s m h3 h4 h5 (fun M' h => hP M' h)
  · exact se_run_26 g P M b s m h3 h4 h5 (fun M' h => hP M' h)
theorem ok_X3_settle : mOK yX3_settle cX3_settle 5 (none) 2 t_X3_settle := mOK.of f_X3_settle (by decide) (fun _ => rfl) (fun g => mCodeOK kk_X3_settle) (fun g => mFldL fk_RX3 rfl) (fun g idx v h => by cases h) (fun g idx v h => by cases h) (mCalL (l := l_X3_settle) (List.forall_mem_cons.mpr ⟨mSite.SN (idx := 44) ok_X7_at (by decide) (by decide) wc_X7_at wm_RX3_44 wt_X7_at wn_RX7 wd_X7_at, List.forall_mem_cons.mpr ⟨mSite.SN (idx := 48) ok_X7_scoreBy (by decide) (by decide) wc_X7_scoreBy wm_RX3_48 wt_X7_scoreBy wn_RX7 wd_X7_scoreBy, List.forall_mem_cons.mpr ⟨mSite.SN (idx := 52) ok_X7_set (by decide) (by decide) wc_X7_set wm_RX3_52 wt_X7_set wn_RX7 wd_X7_set, fun _ h => absurd h List.not_mem_nil⟩⟩⟩) (fun _ => rfl)) run_X3_settle

