/-! ===== CLASS Play: the stronger trumps, and what may be played ===== -/
/-- the strongest trump among k cards from f on, -1: none -/
def aMx (t : Int32) (h : Nat) (cs : List Nat) (f : Nat) : Nat → Int
  | 0 => -1
  | k + 1 => if nI (aC cs (f + k) / 8) = t then (if aMx t h cs f k < (sN true h (aC cs (f + k)) : Int) then (sN true h (aC cs (f + k)) : Int) else aMx t h cs f k) else aMx t h cs f k
theorem aMx_rng {t : Int32} {h : Nat} {cs : List Nat} {f : Nat} : ∀ k, -1 ≤ aMx t h cs f k ∧ aMx t h cs f k ≤ 7
  | 0 => by unfold aMx; omega
  | k + 1 => by
    have := aMx_rng (t := t) (h := h) (cs := cs) (f := f) k
    have h2 := sN_le true h (aC cs (f + k))
    unfold aMx
    split
    · split <;> omega
    · exact this
/-- what may be played: hand, trump, ranking, rule, the cards so far -/
def aSt (t : Int32) (h : Nat) (cs : List Nat) (j : Nat) : Bool := decide (nI (j / 8) = t) && decide (aMx t h cs (cs.length - cs.length % 4) (cs.length % 4) < (sN true h j : Int))
def pre_X2_strongerTrumps (q : Nat × Nat × Nat × List Nat) (as : List mV) (M : mM) : Prop := pl_X2 q.1 = true ∧ as = [.inr (some q.1), .inl (nI (q.2.2.2.length % 4))] ∧ q.2.1 < 4 ∧ q.2.2.1 < 4 ∧ q.2.2.2.length ≤ 32 ∧ M q.1 7 = nI q.2.2.2.length ∧ M q.1 9 = nI q.2.1 ∧ M q.1 10 = nI q.2.2.1 ∧ (∀ c ∈ q.2.2.2, c < 32) ∧ ∀ j, j < q.2.2.2.length → M (q.1 + 4) j = nI (aC q.2.2.2 j)
def post_X2_strongerTrumps (q : Nat × Nat × Nat × List Nat) (_ : List mV) (M : mM) (v : Int32) (M' : mM) : Prop := (∀ j, j < 32 → bt v j = aSt (nI q.2.1) q.2.2.1 q.2.2.2 j) ∧ M' = M
abbrev t_X2_strongerTrumps : mG → mT := mRi pre_X2_strongerTrumps post_X2_strongerTrumps
theorem mo_X2_strongerTrumps : mMn t_X2_strongerTrumps := mRi_mono
theorem rv_X2_strongerTrumps : mHasR yX2_strongerTrumps 1 t_X2_strongerTrumps := by
  intro g as M P hT hl
  obtain ⟨q, ⟨h1, h2, -⟩, -⟩ := hT
  exact ⟨_, _, h2, is_X2 g _ h1⟩
def k_X2_strongerTrumps : List (Nat × mI) := [(0, .iconst (-1), 1, 0, -1, []),
  (1, .istore_n 2, 1, 2, 0, []),
  (2, .aload_n 0, 1, 0, 0, []),
  (3, .getfield 37, 3, 0, 0, []),
  (6, .iload_n 1, 1, 1, 0, []),
  (7, .isub, 1, 0, 0, []),
  (8, .istore_n 3, 1, 3, 0, []),
  (9, .iload_n 3, 1, 3, 0, []),
  (10, .aload_n 0, 1, 0, 0, []),
  (11, .getfield 37, 3, 0, 0, []),
  (14, .if_icmp .ge 49, 3, 63, 0, []),
  (17, .aload_n 0, 1, 0, 0, []),
  (18, .getfield 21, 3, 0, 0, []),
  (21, .iload_n 3, 1, 3, 0, []),
  (22, .invokestatic 56, 3, 0, 0, []),
  (25, .istore 4, 2, 4, 0, []),
  (27, .iload 4, 2, 4, 0, []),
  (29, .bipush 8, 2, 0, nI 8, []),
  (31, .idiv, 1, 0, 0, []),
  (32, .aload_n 0, 1, 0, 0, []),
  (33, .getfield 70, 3, 0, 0, []),
  (36, .if_icmp .ne 21, 3, 57, 0, []),
  (39, .iload_n 2, 1, 2, 0, []),
  (40, .iload 4, 2, 4, 0, []),
  (42, .aload_n 0, 1, 0, 0, []),
  (43, .getfield 70, 3, 0, 0, []),
  (46, .aload_n 0, 1, 0, 0, []),
  (47, .getfield 73, 3, 0, 0, []),
  (50, .invokestatic 89, 3, 0, 0, []),
  (53, .invokestatic 93, 3, 0, 0, []),
  (56, .istore_n 2, 1, 2, 0, []),
  (57, .iinc 3 1, 3, 3, nI 1, []),
  (60, .goto (-51), 3, 9, 0, []),
  (63, .iconst 0, 1, 0, nI 0, []),
  (64, .istore_n 3, 1, 3, 0, []),
  (65, .bipush 8, 2, 0, nI 8, []),
  (67, .aload_n 0, 1, 0, 0, []),
  (68, .getfield 70, 3, 0, 0, []),
  (71, .imul, 1, 0, 0, []),
  (72, .istore 4, 2, 4, 0, []),
  (74, .iload 4, 2, 4, 0, []),
  (76, .bipush 8, 2, 0, nI 8, []),
  (78, .aload_n 0, 1, 0, 0, []),
  (79, .getfield 70, 3, 0, 0, []),
  (82, .imul, 1, 0, 0, []),
  (83, .bipush 8, 2, 0, nI 8, []),
  (85, .iadd, 1, 0, 0, []),
  (86, .if_icmp .ge 34, 3, 120, 0, []),
  (89, .iload 4, 2, 4, 0, []),
  (91, .aload_n 0, 1, 0, 0, []),
  (92, .getfield 70, 3, 0, 0, []),
  (95, .aload_n 0, 1, 0, 0, []),
  (96, .getfield 73, 3, 0, 0, []),
  (99, .invokestatic 89, 3, 0, 0, []),
  (102, .iload_n 2, 1, 2, 0, []),
  (103, .if_icmp .le 11, 3, 114, 0, []),
  (106, .iload_n 3, 1, 3, 0, []),
  (107, .iload 4, 2, 4, 0, []),
  (109, .invokestatic 60, 3, 0, 0, []),
  (112, .ior, 1, 0, 0, []),
  (113, .istore_n 3, 1, 3, 0, []),
  (114, .iinc 4 1, 3, 4, nI 1, []),
  (117, .goto (-43), 3, 74, 0, []),
  (120, .iload_n 3, 1, 3, 0, []),
  (121, .ireturn, 1, 0, 0, [])]
theorem kk_X2_strongerTrumps : (k_X2_strongerTrumps.all fun e => mChk cX2_strongerTrumps e.1 e.2) = true := by decide +kernel
def l_X2_strongerTrumps : List (Nat × Nat × (mG → mT)) := [(3 * 56 + 1, 2, t_X7_at), (3 * 89 + 1, 3, t_X7_strengthOf), (3 * 93 + 1, 2, tMax), (3 * 60 + 1, 1, t_X7_bitOf)]
def f_X2_strongerTrumps (g : mG) : mF := (mLk k_X2_strongerTrumps, mLk fl_RX2, mLk (l_X2_strongerTrumps.map fun e => (e.1, e.2.1, e.2.2 g)), mLk ([] : List (Nat × mV)), mLk ([] : List (Nat × mV)), some .int)
theorem m_X2_strongerTrumps (g : mG) : mMono (f_X2_strongerTrumps g) := mMonoL (g := g) (l := l_X2_strongerTrumps) (List.forall_mem_cons.mpr ⟨mo_X7_at, List.forall_mem_cons.mpr ⟨mo_X7_strengthOf, List.forall_mem_cons.mpr ⟨tMax_mono, List.forall_mem_cons.mpr ⟨mo_X7_bitOf, fun _ h => absurd h List.not_mem_nil⟩⟩⟩⟩) rfl

theorem v_sg_0_16 (g : mG) (M : mM) (P : mP) (y : Int32)
    (h : mRun (mSx g) (f_X2_strongerTrumps g) P (9, [some (.inr (some 16)), some (.inl y), some (.inl (-1)), some (.inl ((M 16 7) - y)), none], [], M)) :
    mRun (mSx g) (f_X2_strongerTrumps g) P (0, [some (.inr (some 16)), some (.inl y), none, none, none], [], M) := mRun.vc (m_X2_strongerTrumps g) [9] 8 h

theorem v_sg_9_16 (g : mG) (M : mM) (P : mP) (y s k : Int32) (l4 : Option mV)
    (h : ((M 16 7) ≤ k → mRun (mSx g) (f_X2_strongerTrumps g) P (74, [some (.inr (some 16)), some (.inl y), some (.inl s), some (.inl (nI 0)), some (.inl ((nI 8) * (M 16 9)))], [], M)) ∧ (¬ (M 16 7) ≤ k → ¬ (nI 8) = 0 ∧ ((¬ ((aAt (M 20) 32 k) / (nI 8)) = (M 16 9) → mRun (mSx g) (f_X2_strongerTrumps g) P (9, [some (.inr (some 16)), some (.inl y), some (.inl s), some (.inl (k + (nI 1))), some (.inl (aAt (M 20) 32 k))], [], M)) ∧ (¬ (¬ ((aAt (M 20) 32 k) / (nI 8)) = (M 16 9)) → let v1 : Int32 := if s < (fStr (aAt (M 20) 32 k) (M 16 9) (M 16 10)) then fStr (aAt (M 20) 32 k) (M 16 9) (M 16 10) else s; mRun (mSx g) (f_X2_strongerTrumps g) P (9, [some (.inr (some 16)), some (.inl y), some (.inl v1), some (.inl (k + (nI 1))), some (.inl (aAt (M 20) 32 k))], [], M))))) :
    mRun (mSx g) (f_X2_strongerTrumps g) P (9, [some (.inr (some 16)), some (.inl y), some (.inl s), some (.inl k), l4], [], M) := mRun.vc (m_X2_strongerTrumps g) [9, 74] 27 h

theorem v_sg_74_16 (g : mG) (M : mM) (P : mP) (y s b c : Int32)
    (h : ((((nI 8) * (M 16 9)) + (nI 8)) ≤ c → P (some (.inl b)) M) ∧ (¬ (((nI 8) * (M 16 9)) + (nI 8)) ≤ c → ((fStr c (M 16 9) (M 16 10)) ≤ s → mRun (mSx g) (f_X2_strongerTrumps g) P (74, [some (.inr (some 16)), some (.inl y), some (.inl s), some (.inl b), some (.inl (c + (nI 1)))], [], M)) ∧ (¬ (fStr c (M 16 9) (M 16 10)) ≤ s → mRun (mSx g) (f_X2_strongerTrumps g) P (74, [some (.inr (some 16)), some (.inl y), some (.inl s), some (.inl (b ||| (fBit c))), some (.inl (c + (nI 1)))], [], M)))) :
    mRun (mSx g) (f_X2_strongerTrumps g) P (74, [some (.inr (some 16)), some (.inl y), some (.inl s), some (.inl b), some (.inl c)], [], M) := mRun.vc (m_X2_strongerTrumps g) [74] 24 h

theorem sg_b_16 (g : mG) (M : mM) (P : mP) {u h : Nat} {y s : Int32} (hu : u < 4) (hh : h < 4) (e2 : M 16 9 = nI u) (e3 : M 16 10 = nI h)
    (hP : ∀ v, (∀ j, j < 32 → bt v j = (decide (j / 8 = u) && decide (s.toInt < (sN true h j : Int)))) → P (some (.inl v)) M) :
    ∀ (n i : Nat) (b : Int32), i + n = 8 → (∀ j, j < 32 → bt b j = (decide (j / 8 = u) && decide (j < 8 * u + i) && decide (s.toInt < (sN true h j : Int)))) → mRun (mSx g) (f_X2_strongerTrumps g) P (74, [some (.inr (some 16)), some (.inl y), some (.inl s), some (.inl b), some (.inl (nI (8 * u + i)))], [], M)
  | 0, i, b, hi, hb => by
    refine v_sg_74_16 g M P y s b (nI (8 * u + i)) ⟨fun _ => hP b (fun j hj => ?_), fun z => absurd (by rw [e2, pk_mul, nI_add]; exact nI_le (by omega) (by omega)) z⟩
    rw [hb j hj]
    by_cases q : j / 8 = u
    · rw [decide_eq_true q, decide_eq_true (show j < 8 * u + i by omega)]
      simp
    · rw [decide_eq_false q]
      simp
  | n + 1, i, b, hi, hb => by
    have hstr : fStr (nI (8 * u + i)) (nI u) (nI h) = nI (sN true h (8 * u + i)) := by
      rw [fStr_N (nI u) (by omega) hh, show (8 * u + i) / 8 = u by omega]
      simp
    have hle := sN_le true h (8 * u + i)
    refine v_sg_74_16 g M P y s b (nI (8 * u + i)) ⟨fun z => absurd z (by rw [e2, pk_mul, nI_add]; exact nI_ge (by omega) (by omega)), fun _ => ?_⟩
    rw [e2, e3, hstr, nI_add]
    refine ⟨fun z => sg_b_16 g M P hu hh e2 e3 hP n (i + 1) b (by omega) (fun j hj => ?_), fun z => sg_b_16 g M P hu hh e2 e3 hP n (i + 1) _ (by omega) (fun j hj => ?_)⟩
    · rw [hb j hj]
      rw [fa_le, nI_toInt (by omega)] at z
      by_cases q : j = 8 * u + i
      · subst q
        rw [decide_eq_false (show ¬ s.toInt < (sN true h (8 * u + i) : Int) by omega)]
        simp
      · rw [show decide (j < 8 * u + i) = decide (j < 8 * u + (i + 1)) from decide_eq_decide.mpr (by omega)]
    · rw [fa_le, nI_toInt (by omega)] at z
      rw [bt_or, hb j hj, bt_fBit _ (by omega) j hj]
      by_cases q : j = 8 * u + i
      · subst q
        rw [decide_eq_true (show s.toInt < (sN true h (8 * u + i) : Int) by omega), decide_eq_true (show (8 * u + i) / 8 = u by omega), decide_eq_true (show 8 * u + i < 8 * u + (i + 1) by omega)]
        simp
      · rw [show decide (j < 8 * u + i) = decide (j < 8 * u + (i + 1)) from decide_eq_decide.mpr (by omega), decide_eq_false q]
        simp
theorem sg_a_16 (g : mG) (M : mM) (P : mP) {u h : Nat} {y : Int32} {cs : List Nat} (hu : u < 4) (hh : h < 4) (hl : cs.length ≤ 32) (e1 : M 16 7 = nI cs.length) (e2 : M 16 9 = nI u) (e3 : M 16 10 = nI h) (hc : ∀ c ∈ cs, c < 32) (e4 : ∀ j, j < cs.length → M 20 j = nI (aC cs j))
    (hP : ∀ v, (∀ j, j < 32 → bt v j = aSt (nI u) h cs j) → P (some (.inl v)) M) (f : Nat) (hf : f = cs.length - cs.length % 4) :
    ∀ (n k : Nat) (s : Int32) (l4 : Option mV), f + k + n = cs.length → s.toInt = aMx (nI u) h cs f k → mRun (mSx g) (f_X2_strongerTrumps g) P (9, [some (.inr (some 16)), some (.inl y), some (.inl s), some (.inl (nI (f + k))), l4], [], M)
  | 0, k, s, l4, hk, hs => by
    refine v_sg_9_16 g M P y s (nI (f + k)) l4 ⟨fun _ => ?_, fun z => absurd (by rw [e1]; exact nI_le (by omega) (by omega)) z⟩
    rw [e2, pk_mul]
    refine sg_b_16 g M P hu hh e2 e3 (fun v hv => hP v (fun j hj => ?_)) 8 0 (nI 0) rfl (fun j hj => ?_)
    · rw [hv j hj, hs, show k = cs.length % 4 by omega, hf]
      unfold aSt
      rw [show decide (j / 8 = u) = decide (nI (j / 8) = nI u) from decide_eq_decide.mpr (nI_eq (by omega) (by omega)).symm]
    · rw [show nI 0 = 0 from rfl, bt_0]
      by_cases q : j / 8 = u
      · rw [decide_eq_false (show ¬ j < 8 * u + 0 by omega)]
        simp
      · rw [decide_eq_false q]
        simp
  | n + 1, k, s, l4, hk, hs => by
    have hin : f + k < cs.length := by omega
    have hat : aAt (M 20) 32 (nI (f + k)) = nI (aC cs (f + k)) := by rw [aAt_in (by omega) (by decide)]; exact e4 _ hin
    have hc2 := hc _ (aC_in hin)
    have hle := sN_le true h (aC cs (f + k))
    have hdiv : nI (aC cs (f + k)) / nI 8 = nI (aC cs (f + k) / 8) := nI_div8 (by omega)
    refine v_sg_9_16 g M P y s (nI (f + k)) l4 ⟨fun z => absurd (by rw [e1] at z; exact z) (nI_ge (by omega) (by omega)), fun _ => ⟨n8, ?_⟩⟩
    rw [e2, e3, hat, hdiv, nI_add]
    refine ⟨fun z => sg_a_16 g M P hu hh hl e1 e2 e3 hc e4 hP f hf n (k + 1) s _ (by omega) ?_, fun z => ?_⟩
    · rw [hs, aMx, if_neg z]
    · have z' := Classical.not_not.mp z
      have hstr : fStr (nI (aC cs (f + k))) (nI u) (nI h) = nI (sN true h (aC cs (f + k))) := by
        rw [fStr_N (nI u) hc2 hh, z']
        simp
      rw [hstr]
      refine sg_a_16 g M P hu hh hl e1 e2 e3 hc e4 hP f hf n (k + 1) _ _ (by omega) ?_
      rw [aMx, if_pos z', ← hs]
      by_cases q : s < nI (sN true h (aC cs (f + k)))
      · rw [if_pos q]
        rw [fa_lt, nI_toInt (by omega)] at q
        rw [if_pos q, nI_toInt (by omega)]
      · rw [if_neg q]
        rw [fa_lt, nI_toInt (by omega)] at q
        rw [if_neg q]
theorem sg_run_16 (g : mG) (M : mM) (P : mP) {u h : Nat} {cs : List Nat} (hu : u < 4) (hh : h < 4) (hl : cs.length ≤ 32) (e1 : M 16 7 = nI cs.length) (e2 : M 16 9 = nI u) (e3 : M 16 10 = nI h) (hc : ∀ c ∈ cs, c < 32) (e4 : ∀ j, j < cs.length → M 20 j = nI (aC cs j))
    (hP : ∀ v, (∀ j, j < 32 → bt v j = aSt (nI u) h cs j) → P (some (.inl v)) M) : mRun (mSx g) (f_X2_strongerTrumps g) P (0, [some (.inr (some 16)), some (.inl (nI (cs.length % 4))), none, none, none], [], M) := by
  refine v_sg_0_16 g M P _ ?_
  rw [e1, pk_sub (Nat.mod_le _ _)]
  exact sg_a_16 g M P hu hh hl e1 e2 e3 hc e4 hP _ rfl (cs.length % 4) 0 (-1) none (by have := Nat.mod_le cs.length 4; omega) (show ((-1 : Int32)).toInt = -1 by decide)
theorem v_sg_0_29 (g : mG) (M : mM) (P : mP) (y : Int32)
    (h : mRun (mSx g) (f_X2_strongerTrumps g) P (9, [some (.inr (some 29)), some (.inl y), some (.inl (-1)), some (.inl ((M 29 7) - y)), none], [], M)) :
    mRun (mSx g) (f_X2_strongerTrumps g) P (0, [some (.inr (some 29)), some (.inl y), none, none, none], [], M) := mRun.vc (m_X2_strongerTrumps g) [9] 8 h

theorem v_sg_9_29 (g : mG) (M : mM) (P : mP) (y s k : Int32) (l4 : Option mV)
    (h : ((M 29 7) ≤ k → mRun (mSx g) (f_X2_strongerTrumps g) P (74, [some (.inr (some 29)), some (.inl y), some (.inl s), some (.inl (nI 0)), some (.inl ((nI 8) * (M 29 9)))], [], M)) ∧ (¬ (M 29 7) ≤ k → ¬ (nI 8) = 0 ∧ ((¬ ((aAt (M 33) 32 k) / (nI 8)) = (M 29 9) → mRun (mSx g) (f_X2_strongerTrumps g) P (9, [some (.inr (some 29)), some (.inl y), some (.inl s), some (.inl (k + (nI 1))), some (.inl (aAt (M 33) 32 k))], [], M)) ∧ (¬ (¬ ((aAt (M 33) 32 k) / (nI 8)) = (M 29 9)) → let v1 : Int32 := if s < (fStr (aAt (M 33) 32 k) (M 29 9) (M 29 10)) then fStr (aAt (M 33) 32 k) (M 29 9) (M 29 10) else s; mRun (mSx g) (f_X2_strongerTrumps g) P (9, [some (.inr (some 29)), some (.inl y), some (.inl v1), some (.inl (k + (nI 1))), some (.inl (aAt (M 33) 32 k))], [], M))))) :
    mRun (mSx g) (f_X2_strongerTrumps g) P (9, [some (.inr (some 29)), some (.inl y), some (.inl s), some (.inl k), l4], [], M) := mRun.vc (m_X2_strongerTrumps g) [9, 74] 27 h

theorem v_sg_74_29 (g : mG) (M : mM) (P : mP) (y s b c : Int32)
    (h : ((((nI 8) * (M 29 9)) + (nI 8)) ≤ c → P (some (.inl b)) M) ∧ (¬ (((nI 8) * (M 29 9)) + (nI 8)) ≤ c → ((fStr c (M 29 9) (M 29 10)) ≤ s → mRun (mSx g) (f_X2_strongerTrumps g) P (74, [some (.inr (some 29)), some (.inl y), some (.inl s), some (.inl b), some (.inl (c + (nI 1)))], [], M)) ∧ (¬ (fStr c (M 29 9) (M 29 10)) ≤ s → mRun (mSx g) (f_X2_strongerTrumps g) P (74, [some (.inr (some 29)), some (.inl y), some (.inl s), some (.inl (b ||| (fBit c))), some (.inl (c + (nI 1)))], [], M)))) :
    mRun (mSx g) (f_X2_strongerTrumps g) P (74, [some (.inr (some 29)), some (.inl y), some (.inl s), some (.inl b), some (.inl c)], [], M) := mRun.vc (m_X2_strongerTrumps g) [74] 24 h

theorem sg_b_29 (g : mG) (M : mM) (P : mP) {u h : Nat} {y s : Int32} (hu : u < 4) (hh : h < 4) (e2 : M 29 9 = nI u) (e3 : M 29 10 = nI h)
    (hP : ∀ v, (∀ j, j < 32 → bt v j = (decide (j / 8 = u) && decide (s.toInt < (sN true h j : Int)))) → P (some (.inl v)) M) :
    ∀ (n i : Nat) (b : Int32), i + n = 8 → (∀ j, j < 32 → bt b j = (decide (j / 8 = u) && decide (j < 8 * u + i) && decide (s.toInt < (sN true h j : Int)))) → mRun (mSx g) (f_X2_strongerTrumps g) P (74, [some (.inr (some 29)), some (.inl y), some (.inl s), some (.inl b), some (.inl (nI (8 * u + i)))], [], M)
  | 0, i, b, hi, hb => by
    refine v_sg_74_29 g M P y s b (nI (8 * u + i)) ⟨fun _ => hP b (fun j hj => ?_), fun z => absurd (by rw [e2, pk_mul, nI_add]; exact nI_le (by omega) (by omega)) z⟩
    rw [hb j hj]
    by_cases q : j / 8 = u
    · rw [decide_eq_true q, decide_eq_true (show j < 8 * u + i by omega)]
      simp
    · rw [decide_eq_false q]
      simp
  | n + 1, i, b, hi, hb => by
    have hstr : fStr (nI (8 * u + i)) (nI u) (nI h) = nI (sN true h (8 * u + i)) := by
      rw [fStr_N (nI u) (by omega) hh, show (8 * u + i) / 8 = u by omega]
      simp
    have hle := sN_le true h (8 * u + i)
    refine v_sg_74_29 g M P y s b (nI (8 * u + i)) ⟨fun z => absurd z (by rw [e2, pk_mul, nI_add]; exact nI_ge (by omega) (by omega)), fun _ => ?_⟩
    rw [e2, e3, hstr, nI_add]
    refine ⟨fun z => sg_b_29 g M P hu hh e2 e3 hP n (i + 1) b (by omega) (fun j hj => ?_), fun z => sg_b_29 g M P hu hh e2 e3 hP n (i + 1) _ (by omega) (fun j hj => ?_)⟩
    · rw [hb j hj]
      rw [fa_le, nI_toInt (by omega)] at z
      by_cases q : j = 8 * u + i
      · subst q
        rw [decide_eq_false (show ¬ s.toInt < (sN true h (8 * u + i) : Int) by omega)]
        simp
      · rw [show decide (j < 8 * u + i) = decide (j < 8 * u + (i + 1)) from decide_eq_decide.mpr (by omega)]
    · rw [fa_le, nI_toInt (by omega)] at z
      rw [bt_or, hb j hj, bt_fBit _ (by omega) j hj]
      by_cases q : j = 8 * u + i
      · subst q
        rw [decide_eq_true (show s.toInt < (sN true h (8 * u + i) : Int) by omega), decide_eq_true (show (8 * u + i) / 8 = u by omega), decide_eq_true (show 8 * u + i < 8 * u + (i + 1) by omega)]
        simp
      · rw [show decide (j < 8 * u + i) = decide (j < 8 * u + (i + 1)) from decide_eq_decide.mpr (by omega), decide_eq_false q]
        simp
theorem sg_a_29 (g : mG) (M : mM) (P : mP) {u h : Nat} {y : Int32} {cs : List Nat} (hu : u < 4) (hh : h < 4) (hl : cs.length ≤ 32) (e1 : M 29 7 = nI cs.length) (e2 : M 29 9 = nI u) (e3 : M 29 10 = nI h) (hc : ∀ c ∈ cs, c < 32) (e4 : ∀ j, j < cs.length → M 33 j = nI (aC cs j))
    (hP : ∀ v, (∀ j, j < 32 → bt v j = aSt (nI u) h cs j) → P (some (.inl v)) M) (f : Nat) (hf : f = cs.length - cs.length % 4) :
    ∀ (n k : Nat) (s : Int32) (l4 : Option mV), f + k + n = cs.length → s.toInt = aMx (nI u) h cs f k → mRun (mSx g) (f_X2_strongerTrumps g) P (9, [some (.inr (some 29)), some (.inl y), some (.inl s), some (.inl (nI (f + k))), l4], [], M)
  | 0, k, s, l4, hk, hs => by
    refine v_sg_9_29 g M P y s (nI (f + k)) l4 ⟨fun _ => ?_, fun z => absurd (by rw [e1]; exact nI_le (by omega) (by omega)) z⟩
    rw [e2, pk_mul]
    refine sg_b_29 g M P hu hh e2 e3 (fun v hv => hP v (fun j hj => ?_)) 8 0 (nI 0) rfl (fun j hj => ?_)
    · rw [hv j hj, hs, show k = cs.length % 4 by omega, hf]
      unfold aSt
      rw [show decide (j / 8 = u) = decide (nI (j / 8) = nI u) from decide_eq_decide.mpr (nI_eq (by omega) (by omega)).symm]
    · rw [show nI 0 = 0 from rfl, bt_0]
      by_cases q : j / 8 = u
      · rw [decide_eq_false (show ¬ j < 8 * u + 0 by omega)]
        simp
      · rw [decide_eq_false q]
        simp
  | n + 1, k, s, l4, hk, hs => by
    have hin : f + k < cs.length := by omega
    have hat : aAt (M 33) 32 (nI (f + k)) = nI (aC cs (f + k)) := by rw [aAt_in (by omega) (by decide)]; exact e4 _ hin
    have hc2 := hc _ (aC_in hin)
    have hle := sN_le true h (aC cs (f + k))
    have hdiv : nI (aC cs (f + k)) / nI 8 = nI (aC cs (f + k) / 8) := nI_div8 (by omega)
    refine v_sg_9_29 g M P y s (nI (f + k)) l4 ⟨fun z => absurd (by rw [e1] at z; exact z) (nI_ge (by omega) (by omega)), fun _ => ⟨n8, ?_⟩⟩
    rw [e2, e3, hat, hdiv, nI_add]
    refine ⟨fun z => sg_a_29 g M P hu hh hl e1 e2 e3 hc e4 hP f hf n (k + 1) s _ (by omega) ?_, fun z => ?_⟩
    · rw [hs, aMx, if_neg z]
    · have z' := Classical.not_not.mp z
      have hstr : fStr (nI (aC cs (f + k))) (nI u) (nI h) = nI (sN true h (aC cs (f + k))) := by
        rw [fStr_N (nI u) hc2 hh, z']
        simp
      rw [hstr]
      refine sg_a_29 g M P hu hh hl e1 e2 e3 hc e4 hP f hf n (k + 1) _ _ (by omega) ?_
      rw [aMx, if_pos z', ← hs]
      by_cases q : s < nI (sN true h (aC cs (f + k)))
      · rw [if_pos q]
        rw [fa_lt, nI_toInt (by omega)] at q
        rw [if_pos q, nI_toInt (by omega)]
      · rw [if_neg q]
        rw [fa_lt, nI_toInt (by omega)] at q
        rw [if_neg q]
theorem sg_run_29 (g : mG) (M : mM) (P : mP) {u h : Nat} {cs : List Nat} (hu : u < 4) (hh : h < 4) (hl : cs.length ≤ 32) (e1 : M 29 7 = nI cs.length) (e2 : M 29 9 = nI u) (e3 : M 29 10 = nI h) (hc : ∀ c ∈ cs, c < 32) (e4 : ∀ j, j < cs.length → M 33 j = nI (aC cs j))
    (hP : ∀ v, (∀ j, j < 32 → bt v j = aSt (nI u) h cs j) → P (some (.inl v)) M) : mRun (mSx g) (f_X2_strongerTrumps g) P (0, [some (.inr (some 29)), some (.inl (nI (cs.length % 4))), none, none, none], [], M) := by
  refine v_sg_0_29 g M P _ ?_
  rw [e1, pk_sub (Nat.mod_le _ _)]
  exact sg_a_29 g M P hu hh hl e1 e2 e3 hc e4 hP _ rfl (cs.length % 4) 0 (-1) none (by have := Nat.mod_le cs.length 4; omega) (show ((-1 : Int32)).toInt = -1 by decide)
theorem run_X2_strongerTrumps : mRunOf 5 t_X2_strongerTrumps f_X2_strongerTrumps := fun g as M P hT => by
  obtain ⟨⟨c, u, h, cs⟩, ⟨h1, rfl, h3, h4, h5, h6, h7, h8, h9, h10⟩, hP⟩ := hT
  refine ⟨Nat.le_of_ble_eq_true rfl, ?_⟩
  dsimp only at h1 h3 h4 h5 h6 h7 h8 h9 h10
  rcases pl_two h1 with rfl | rfl
  · exact sg_run_16 g M P h3 h4 h5 h6 h7 h8 h9 h10 (fun v hv => hP _ _ ⟨hv, rfl⟩)
  · exact sg_run_29 g M P h3 h4 h5 h6 h7 h8 h9 h10 (fun v hv => hP _ _ ⟨hv, rfl⟩)
theorem ok_X2_strongerTrumps : mOK yX2_strongerTrumps cX2_strongerTrumps 5 (some .int) 2 t_X2_strongerTrumps := mOK.of f_X2_strongerTrumps (by decide) (fun _ => rfl) (fun g => mCodeOK kk_X2_strongerTrumps) (fun g => mFldL fk_RX2 rfl) (fun g idx v h => by cases h) (fun g idx v h => by cases h) (mCalL (l := l_X2_strongerTrumps) (List.forall_mem_cons.mpr ⟨mSite.SN (idx := 56) ok_X7_at (by decide) (by decide) wc_X7_at wm_RX2_56 wt_X7_at wn_RX7 wd_X7_at, List.forall_mem_cons.mpr ⟨mSite.SN (idx := 89) ok_X7_strengthOf (by decide) (by decide) wc_X7_strengthOf wm_RX2_89 wt_X7_strengthOf wn_RX7 wd_X7_strengthOf, List.forall_mem_cons.mpr ⟨mSite.max (idx := 93) (by decide) wc_J9_max_7cf53 wk_RX2_93 wt_J9_max_7cf53 wn_RJ9, List.forall_mem_cons.mpr ⟨mSite.SN (idx := 60) ok_X7_bitOf (by decide) (by decide) wc_X7_bitOf wm_RX2_60 wt_X7_bitOf wn_RX7 wd_X7_bitOf, fun _ h => absurd h List.not_mem_nil⟩⟩⟩⟩) (fun _ => rfl)) run_X2_strongerTrumps

