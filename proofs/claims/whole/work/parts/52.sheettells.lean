/-! ===== CLASS TrickHouse: tells, copy ===== -/
/-- bits 0 .. k - 1 of f -/
def bS (f : Nat → Bool) : Nat → Int32
  | 0 => 0
  | k + 1 => if f k then bS f k ||| nI 1 <<< (nI k &&& 31) else bS f k
theorem bS_0 {f : Nat → Bool} : bS f 0 = nI 0 := rfl
def tTr (T : aT) (s : aSheet) : Int32 := bS (fun t => dSo T s (nI t) T.1.2.2.1) 5
def trN (T : aT) : Int32 := if T.2.1.2.1.isSome then trumpI T else nI 4
def tRk (T : aT) (s : aSheet) : Int32 := bS (fun h => dSo T s (trN T) h) 4
def pre_X7_trumpsThatFit (q : Nat × aZ) (as : List mV) (M : mM) : Prop := q.1 < 4 ∧ as = [.inr (some 0), .inr (some (40 + 2 * q.1))] ∧ RpC M q.2 ∧ zInv q.2
def post_X7_trumpsThatFit (q : Nat × aZ) (_ : List mV) (M : mM) (v : Int32) (M' : mM) : Prop := v = tTr (zT q.2.2.1) (q.2.2.2.2 q.1) ∧ M' = M
abbrev t_X7_trumpsThatFit : mG → mT := mRi pre_X7_trumpsThatFit post_X7_trumpsThatFit
theorem mo_X7_trumpsThatFit : mMn t_X7_trumpsThatFit := mRi_mono
theorem rv_X7_trumpsThatFit : mHasR yX7_trumpsThatFit 1 t_X7_trumpsThatFit := by
  intro g as M P hT hl
  obtain ⟨q, ⟨-, h2, -⟩, -⟩ := hT
  exact ⟨_, _, h2, is_X7 g _ rfl⟩
def k_X7_trumpsThatFit : List (Nat × mI) := [(0, .iconst 0, 1, 0, nI 0, []),
  (1, .istore_n 2, 1, 2, 0, []),
  (2, .iconst 0, 1, 0, nI 0, []),
  (3, .istore_n 3, 1, 3, 0, []),
  (4, .iload_n 3, 1, 3, 0, []),
  (5, .iconst 5, 1, 0, nI 5, []),
  (6, .if_icmp .ge 31, 3, 37, 0, []),
  (9, .aload_n 0, 1, 0, 0, []),
  (10, .aload_n 1, 1, 1, 0, []),
  (11, .iload_n 3, 1, 3, 0, []),
  (12, .aload_n 0, 1, 0, 0, []),
  (13, .getfield 29, 3, 0, 0, []),
  (16, .getfield 174, 3, 0, 0, []),
  (19, .invokevirtual 381, 3, 0, 0, []),
  (22, .ifCond .eq 9, 3, 31, 0, []),
  (25, .iload_n 2, 1, 2, 0, []),
  (26, .iconst 1, 1, 0, nI 1, []),
  (27, .iload_n 3, 1, 3, 0, []),
  (28, .ishl, 1, 0, 0, []),
  (29, .ior, 1, 0, 0, []),
  (30, .istore_n 2, 1, 2, 0, []),
  (31, .iinc 3 1, 3, 3, nI 1, []),
  (34, .goto (-30), 3, 4, 0, []),
  (37, .iload_n 2, 1, 2, 0, []),
  (38, .ireturn, 1, 0, 0, [])]
theorem kk_X7_trumpsThatFit : (k_X7_trumpsThatFit.all fun e => mChk cX7_trumpsThatFit e.1 e.2) = true := by decide +kernel
def l_X7_trumpsThatFit : List (Nat × Nat × (mG → mT)) := [(3 * 381, 3 + 1, t_X7_wouldBeSo)]
def f_X7_trumpsThatFit (g : mG) : mF := (mLk k_X7_trumpsThatFit, mLk fl_RX7, mLk (l_X7_trumpsThatFit.map fun e => (e.1, e.2.1, e.2.2 g)), mLk ([] : List (Nat × mV)), mLk ([] : List (Nat × mV)), some .int)
theorem m_X7_trumpsThatFit (g : mG) : mMono (f_X7_trumpsThatFit g) := mMonoL (g := g) (l := l_X7_trumpsThatFit) (List.forall_mem_cons.mpr ⟨mo_X7_wouldBeSo, fun _ h => absurd h List.not_mem_nil⟩) rfl

theorem v_tt_40 (g : mG) (M : mM) (P : mP) 
    (h : mRun (mSx g) (f_X7_trumpsThatFit g) P (4, [some (.inr (some 0)), some (.inr (some 40)), some (.inl (nI 0)), some (.inl (nI 0))], [], M)) :
    mRun (mSx g) (f_X7_trumpsThatFit g) P (0, [some (.inr (some 0)), some (.inr (some 40)), none, none], [], M) := mRun.vc (m_X7_trumpsThatFit g) [4] 5 h

theorem v_ttl_40 (g : mG) (M : mM) (P : mP) (b i : Int32)
    (h : ((nI 5) ≤ i → P (some (.inl b)) M) ∧ (¬ ((nI 5) ≤ i) → ∃ x2 : Nat × aZ × Int32 × Nat, pre_X7_wouldBeSo x2 [.inr (some 0), .inr (some 40), .inl i, .inl (M 13 5)] M ∧ ∀ (r4 : Int32) (M3 : mM), post_X7_wouldBeSo x2 [.inr (some 0), .inr (some 40), .inl i, .inl (M 13 5)] M r4 M3 → ((r4 = 0 → mRun (mSx g) (f_X7_trumpsThatFit g) P (4, [some (.inr (some 0)), some (.inr (some 40)), some (.inl b), some (.inl (i + (nI 1)))], [], M3)) ∧ (¬ (r4 = 0) → mRun (mSx g) (f_X7_trumpsThatFit g) P (4, [some (.inr (some 0)), some (.inr (some 40)), some (.inl (b ||| ((nI 1) <<< (i &&& 31)))), some (.inl (i + (nI 1)))], [], M3))))) :
    mRun (mSx g) (f_X7_trumpsThatFit g) P (4, [some (.inr (some 0)), some (.inr (some 40)), some (.inl b), some (.inl i)], [], M) := mRun.vc (m_X7_trumpsThatFit g) [4] 20 h

theorem tt_loop_40 (g : mG) (M : mM) (P : mP) (z : aZ) (hR : RpC M z) (hI : zInv z) (hP : P (some (.inl (bS (fun t => dSo (zT z.2.1) (z.2.2.2 0) (nI t) (zT z.2.1).1.2.2.1) 5))) M) :
    ∀ (j i : Nat), i + j = 5 → mRun (mSx g) (f_X7_trumpsThatFit g) P (4, [some (.inr (some 0)), some (.inr (some 40)), some (.inl (bS (fun t => dSo (zT z.2.1) (z.2.2.2 0) (nI t) (zT z.2.1).1.2.2.1) i)), some (.inl (nI i))], [], M)
  | 0, i, h => by
    obtain rfl : i = 5 := by omega
    exact v_ttl_40 g M P _ _ ⟨fun _ => hP, fun w => absurd (nI_le (Nat.le_refl _) (by decide)) w⟩
  | j + 1, i, h => by
    have r5 : M 13 5 = nI (zT z.2.1).1.2.2.1 := hR.2.2.2.1.1.2.2.1
    refine v_ttl_40 g M P _ _ ⟨fun w => absurd w (nI_ge (by omega) (by decide)), fun _ => ?_⟩
    rw [r5]
    refine ⟨(0, z, nI i, (zT z.2.1).1.2.2.1), ⟨(by decide : 0 < 4), rfl, hR, hI, hI.T.1.2.2.1⟩, fun r M2 hr => ?_⟩
    obtain ⟨hr1, rfl⟩ := hr
    have hr2 : r = mb (dSo (zT z.2.1) (z.2.2.2 0) (nI i) (zT z.2.1).1.2.2.1 = true) := hr1
    have go := tt_loop_40 g M2 P z hR hI hP j (i + 1) (by omega)
    rw [hr2, nI_add, mb_0]
    refine ⟨fun w => ?_, fun w => ?_⟩
    · rw [bS, if_neg w] at go
      exact go
    · rw [bS, if_pos (Classical.not_not.mp w)] at go
      exact go
theorem tt_run_40 (g : mG) (M : mM) (P : mP) (z : aZ) (hR : RpC M z) (hI : zInv z) (hP : P (some (.inl (tTr (zT z.2.1) (z.2.2.2 0)))) M) :
    mRun (mSx g) (f_X7_trumpsThatFit g) P (0, [some (.inr (some 0)), some (.inr (some 40)), none, none], [], M) :=
  v_tt_40 g M P (by
    unfold tTr at hP
    have go := tt_loop_40 g M P z hR hI hP 5 0 rfl
    rw [bS_0] at go
    exact go)
theorem v_tt_42 (g : mG) (M : mM) (P : mP) 
    (h : mRun (mSx g) (f_X7_trumpsThatFit g) P (4, [some (.inr (some 0)), some (.inr (some 42)), some (.inl (nI 0)), some (.inl (nI 0))], [], M)) :
    mRun (mSx g) (f_X7_trumpsThatFit g) P (0, [some (.inr (some 0)), some (.inr (some 42)), none, none], [], M) := mRun.vc (m_X7_trumpsThatFit g) [4] 5 h

theorem v_ttl_42 (g : mG) (M : mM) (P : mP) (b i : Int32)
    (h : ((nI 5) ≤ i → P (some (.inl b)) M) ∧ (¬ ((nI 5) ≤ i) → ∃ x2 : Nat × aZ × Int32 × Nat, pre_X7_wouldBeSo x2 [.inr (some 0), .inr (some 42), .inl i, .inl (M 13 5)] M ∧ ∀ (r4 : Int32) (M3 : mM), post_X7_wouldBeSo x2 [.inr (some 0), .inr (some 42), .inl i, .inl (M 13 5)] M r4 M3 → ((r4 = 0 → mRun (mSx g) (f_X7_trumpsThatFit g) P (4, [some (.inr (some 0)), some (.inr (some 42)), some (.inl b), some (.inl (i + (nI 1)))], [], M3)) ∧ (¬ (r4 = 0) → mRun (mSx g) (f_X7_trumpsThatFit g) P (4, [some (.inr (some 0)), some (.inr (some 42)), some (.inl (b ||| ((nI 1) <<< (i &&& 31)))), some (.inl (i + (nI 1)))], [], M3))))) :
    mRun (mSx g) (f_X7_trumpsThatFit g) P (4, [some (.inr (some 0)), some (.inr (some 42)), some (.inl b), some (.inl i)], [], M) := mRun.vc (m_X7_trumpsThatFit g) [4] 20 h

theorem tt_loop_42 (g : mG) (M : mM) (P : mP) (z : aZ) (hR : RpC M z) (hI : zInv z) (hP : P (some (.inl (bS (fun t => dSo (zT z.2.1) (z.2.2.2 1) (nI t) (zT z.2.1).1.2.2.1) 5))) M) :
    ∀ (j i : Nat), i + j = 5 → mRun (mSx g) (f_X7_trumpsThatFit g) P (4, [some (.inr (some 0)), some (.inr (some 42)), some (.inl (bS (fun t => dSo (zT z.2.1) (z.2.2.2 1) (nI t) (zT z.2.1).1.2.2.1) i)), some (.inl (nI i))], [], M)
  | 0, i, h => by
    obtain rfl : i = 5 := by omega
    exact v_ttl_42 g M P _ _ ⟨fun _ => hP, fun w => absurd (nI_le (Nat.le_refl _) (by decide)) w⟩
  | j + 1, i, h => by
    have r5 : M 13 5 = nI (zT z.2.1).1.2.2.1 := hR.2.2.2.1.1.2.2.1
    refine v_ttl_42 g M P _ _ ⟨fun w => absurd w (nI_ge (by omega) (by decide)), fun _ => ?_⟩
    rw [r5]
    refine ⟨(1, z, nI i, (zT z.2.1).1.2.2.1), ⟨(by decide : 1 < 4), rfl, hR, hI, hI.T.1.2.2.1⟩, fun r M2 hr => ?_⟩
    obtain ⟨hr1, rfl⟩ := hr
    have hr2 : r = mb (dSo (zT z.2.1) (z.2.2.2 1) (nI i) (zT z.2.1).1.2.2.1 = true) := hr1
    have go := tt_loop_42 g M2 P z hR hI hP j (i + 1) (by omega)
    rw [hr2, nI_add, mb_0]
    refine ⟨fun w => ?_, fun w => ?_⟩
    · rw [bS, if_neg w] at go
      exact go
    · rw [bS, if_pos (Classical.not_not.mp w)] at go
      exact go
theorem tt_run_42 (g : mG) (M : mM) (P : mP) (z : aZ) (hR : RpC M z) (hI : zInv z) (hP : P (some (.inl (tTr (zT z.2.1) (z.2.2.2 1)))) M) :
    mRun (mSx g) (f_X7_trumpsThatFit g) P (0, [some (.inr (some 0)), some (.inr (some 42)), none, none], [], M) :=
  v_tt_42 g M P (by
    unfold tTr at hP
    have go := tt_loop_42 g M P z hR hI hP 5 0 rfl
    rw [bS_0] at go
    exact go)
theorem v_tt_44 (g : mG) (M : mM) (P : mP) 
    (h : mRun (mSx g) (f_X7_trumpsThatFit g) P (4, [some (.inr (some 0)), some (.inr (some 44)), some (.inl (nI 0)), some (.inl (nI 0))], [], M)) :
    mRun (mSx g) (f_X7_trumpsThatFit g) P (0, [some (.inr (some 0)), some (.inr (some 44)), none, none], [], M) := mRun.vc (m_X7_trumpsThatFit g) [4] 5 h

theorem v_ttl_44 (g : mG) (M : mM) (P : mP) (b i : Int32)
    (h : ((nI 5) ≤ i → P (some (.inl b)) M) ∧ (¬ ((nI 5) ≤ i) → ∃ x2 : Nat × aZ × Int32 × Nat, pre_X7_wouldBeSo x2 [.inr (some 0), .inr (some 44), .inl i, .inl (M 13 5)] M ∧ ∀ (r4 : Int32) (M3 : mM), post_X7_wouldBeSo x2 [.inr (some 0), .inr (some 44), .inl i, .inl (M 13 5)] M r4 M3 → ((r4 = 0 → mRun (mSx g) (f_X7_trumpsThatFit g) P (4, [some (.inr (some 0)), some (.inr (some 44)), some (.inl b), some (.inl (i + (nI 1)))], [], M3)) ∧ (¬ (r4 = 0) → mRun (mSx g) (f_X7_trumpsThatFit g) P (4, [some (.inr (some 0)), some (.inr (some 44)), some (.inl (b ||| ((nI 1) <<< (i &&& 31)))), some (.inl (i + (nI 1)))], [], M3))))) :
    mRun (mSx g) (f_X7_trumpsThatFit g) P (4, [some (.inr (some 0)), some (.inr (some 44)), some (.inl b), some (.inl i)], [], M) := mRun.vc (m_X7_trumpsThatFit g) [4] 20 h

theorem tt_loop_44 (g : mG) (M : mM) (P : mP) (z : aZ) (hR : RpC M z) (hI : zInv z) (hP : P (some (.inl (bS (fun t => dSo (zT z.2.1) (z.2.2.2 2) (nI t) (zT z.2.1).1.2.2.1) 5))) M) :
    ∀ (j i : Nat), i + j = 5 → mRun (mSx g) (f_X7_trumpsThatFit g) P (4, [some (.inr (some 0)), some (.inr (some 44)), some (.inl (bS (fun t => dSo (zT z.2.1) (z.2.2.2 2) (nI t) (zT z.2.1).1.2.2.1) i)), some (.inl (nI i))], [], M)
  | 0, i, h => by
    obtain rfl : i = 5 := by omega
    exact v_ttl_44 g M P _ _ ⟨fun _ => hP, fun w => absurd (nI_le (Nat.le_refl _) (by decide)) w⟩
  | j + 1, i, h => by
    have r5 : M 13 5 = nI (zT z.2.1).1.2.2.1 := hR.2.2.2.1.1.2.2.1
    refine v_ttl_44 g M P _ _ ⟨fun w => absurd w (nI_ge (by omega) (by decide)), fun _ => ?_⟩
    rw [r5]
    refine ⟨(2, z, nI i, (zT z.2.1).1.2.2.1), ⟨(by decide : 2 < 4), rfl, hR, hI, hI.T.1.2.2.1⟩, fun r M2 hr => ?_⟩
    obtain ⟨hr1, rfl⟩ := hr
    have hr2 : r = mb (dSo (zT z.2.1) (z.2.2.2 2) (nI i) (zT z.2.1).1.2.2.1 = true) := hr1
    have go := tt_loop_44 g M2 P z hR hI hP j (i + 1) (by omega)
    rw [hr2, nI_add, mb_0]
    refine ⟨fun w => ?_, fun w => ?_⟩
    · rw [bS, if_neg w] at go
      exact go
    · rw [bS, if_pos (Classical.not_not.mp w)] at go
      exact go
theorem tt_run_44 (g : mG) (M : mM) (P : mP) (z : aZ) (hR : RpC M z) (hI : zInv z) (hP : P (some (.inl (tTr (zT z.2.1) (z.2.2.2 2)))) M) :
    mRun (mSx g) (f_X7_trumpsThatFit g) P (0, [some (.inr (some 0)), some (.inr (some 44)), none, none], [], M) :=
  v_tt_44 g M P (by
    unfold tTr at hP
    have go := tt_loop_44 g M P z hR hI hP 5 0 rfl
    rw [bS_0] at go
    exact go)
theorem v_tt_46 (g : mG) (M : mM) (P : mP) 
    (h : mRun (mSx g) (f_X7_trumpsThatFit g) P (4, [some (.inr (some 0)), some (.inr (some 46)), some (.inl (nI 0)), some (.inl (nI 0))], [], M)) :
    mRun (mSx g) (f_X7_trumpsThatFit g) P (0, [some (.inr (some 0)), some (.inr (some 46)), none, none], [], M) := mRun.vc (m_X7_trumpsThatFit g) [4] 5 h

theorem v_ttl_46 (g : mG) (M : mM) (P : mP) (b i : Int32)
    (h : ((nI 5) ≤ i → P (some (.inl b)) M) ∧ (¬ ((nI 5) ≤ i) → ∃ x2 : Nat × aZ × Int32 × Nat, pre_X7_wouldBeSo x2 [.inr (some 0), .inr (some 46), .inl i, .inl (M 13 5)] M ∧ ∀ (r4 : Int32) (M3 : mM), post_X7_wouldBeSo x2 [.inr (some 0), .inr (some 46), .inl i, .inl (M 13 5)] M r4 M3 → ((r4 = 0 → mRun (mSx g) (f_X7_trumpsThatFit g) P (4, [some (.inr (some 0)), some (.inr (some 46)), some (.inl b), some (.inl (i + (nI 1)))], [], M3)) ∧ (¬ (r4 = 0) → mRun (mSx g) (f_X7_trumpsThatFit g) P (4, [some (.inr (some 0)), some (.inr (some 46)), some (.inl (b ||| ((nI 1) <<< (i &&& 31)))), some (.inl (i + (nI 1)))], [], M3))))) :
    mRun (mSx g) (f_X7_trumpsThatFit g) P (4, [some (.inr (some 0)), some (.inr (some 46)), some (.inl b), some (.inl i)], [], M) := mRun.vc (m_X7_trumpsThatFit g) [4] 20 h

theorem tt_loop_46 (g : mG) (M : mM) (P : mP) (z : aZ) (hR : RpC M z) (hI : zInv z) (hP : P (some (.inl (bS (fun t => dSo (zT z.2.1) (z.2.2.2 3) (nI t) (zT z.2.1).1.2.2.1) 5))) M) :
    ∀ (j i : Nat), i + j = 5 → mRun (mSx g) (f_X7_trumpsThatFit g) P (4, [some (.inr (some 0)), some (.inr (some 46)), some (.inl (bS (fun t => dSo (zT z.2.1) (z.2.2.2 3) (nI t) (zT z.2.1).1.2.2.1) i)), some (.inl (nI i))], [], M)
  | 0, i, h => by
    obtain rfl : i = 5 := by omega
    exact v_ttl_46 g M P _ _ ⟨fun _ => hP, fun w => absurd (nI_le (Nat.le_refl _) (by decide)) w⟩
  | j + 1, i, h => by
    have r5 : M 13 5 = nI (zT z.2.1).1.2.2.1 := hR.2.2.2.1.1.2.2.1
    refine v_ttl_46 g M P _ _ ⟨fun w => absurd w (nI_ge (by omega) (by decide)), fun _ => ?_⟩
    rw [r5]
    refine ⟨(3, z, nI i, (zT z.2.1).1.2.2.1), ⟨(by decide : 3 < 4), rfl, hR, hI, hI.T.1.2.2.1⟩, fun r M2 hr => ?_⟩
    obtain ⟨hr1, rfl⟩ := hr
    have hr2 : r = mb (dSo (zT z.2.1) (z.2.2.2 3) (nI i) (zT z.2.1).1.2.2.1 = true) := hr1
    have go := tt_loop_46 g M2 P z hR hI hP j (i + 1) (by omega)
    rw [hr2, nI_add, mb_0]
    refine ⟨fun w => ?_, fun w => ?_⟩
    · rw [bS, if_neg w] at go
      exact go
    · rw [bS, if_pos (Classical.not_not.mp w)] at go
      exact go
theorem tt_run_46 (g : mG) (M : mM) (P : mP) (z : aZ) (hR : RpC M z) (hI : zInv z) (hP : P (some (.inl (tTr (zT z.2.1) (z.2.2.2 3)))) M) :
    mRun (mSx g) (f_X7_trumpsThatFit g) P (0, [some (.inr (some 0)), some (.inr (some 46)), none, none], [], M) :=
  v_tt_46 g M P (by
    unfold tTr at hP
    have go := tt_loop_46 g M P z hR hI hP 5 0 rfl
    rw [bS_0] at go
    exact go)
theorem run_X7_trumpsThatFit : mRunOf 4 t_X7_trumpsThatFit f_X7_trumpsThatFit := fun g as M P hT => by
  obtain ⟨⟨k, z⟩, ⟨h1, rfl, h3, h4⟩, hP⟩ := hT
  refine ⟨Nat.le_of_ble_eq_true rfl, ?_⟩
  dsimp only at h1 h3 h4
  have hP' := hP _ _ ⟨rfl, rfl⟩
  rcases (by omega : k = 0 ∨ k = 1 ∨ k = 2 ∨ k = 3) with rfl | rfl | rfl | rfl
  · exact tt_run_40 g M P z h3 h4 hP'
  · exact tt_run_42 g M P z h3 h4 hP'
  · exact tt_run_44 g M P z h3 h4 hP'
  · exact tt_run_46 g M P z h3 h4 hP'
theorem ok_X7_trumpsThatFit : mOK yX7_trumpsThatFit cX7_trumpsThatFit 4 (some .int) 4 t_X7_trumpsThatFit := mOK.of f_X7_trumpsThatFit (by decide) (fun _ => rfl) (fun g => mCodeOK kk_X7_trumpsThatFit) (fun g => mFldL fk_RX7 rfl) (fun g idx v h => by cases h) (fun g idx v h => by cases h) (mCalL (l := l_X7_trumpsThatFit) (List.forall_mem_cons.mpr ⟨mSite.V (idx := 381) ok_X7_wouldBeSo (by decide) (by decide) rv_X7_wouldBeSo wc_X7_wouldBeSo wk_RX7_381 wi_X7_wouldBeSo wl_X7_wouldBeSo wn_RX7 wd_X7_wouldBeSo, fun _ h => absurd h List.not_mem_nil⟩) (fun _ => rfl)) run_X7_trumpsThatFit

def pre_X7_rankingsThatFit (q : Nat × aZ) (as : List mV) (M : mM) : Prop := q.1 < 4 ∧ as = [.inr (some 0), .inr (some (40 + 2 * q.1))] ∧ RpC M q.2 ∧ zInv q.2
def post_X7_rankingsThatFit (q : Nat × aZ) (_ : List mV) (M : mM) (v : Int32) (M' : mM) : Prop := v = tRk (zT q.2.2.1) (q.2.2.2.2 q.1) ∧ M' = M
abbrev t_X7_rankingsThatFit : mG → mT := mRi pre_X7_rankingsThatFit post_X7_rankingsThatFit
theorem mo_X7_rankingsThatFit : mMn t_X7_rankingsThatFit := mRi_mono
theorem rv_X7_rankingsThatFit : mHasR yX7_rankingsThatFit 1 t_X7_rankingsThatFit := by
  intro g as M P hT hl
  obtain ⟨q, ⟨-, h2, -⟩, -⟩ := hT
  exact ⟨_, _, h2, is_X7 g _ rfl⟩
def k_X7_rankingsThatFit : List (Nat × mI) := [(0, .aload_n 0, 1, 0, 0, []),
  (1, .getfield 29, 3, 0, 0, []),
  (4, .getfield 181, 3, 0, 0, []),
  (7, .getfield 242, 3, 0, 0, []),
  (10, .iconst (-1), 1, 0, -1, []),
  (11, .if_icmp .ne 7, 3, 18, 0, []),
  (14, .iconst 4, 1, 0, nI 4, []),
  (15, .goto 13, 3, 28, 0, []),
  (18, .aload_n 0, 1, 0, 0, []),
  (19, .getfield 29, 3, 0, 0, []),
  (22, .getfield 181, 3, 0, 0, []),
  (25, .getfield 185, 3, 0, 0, []),
  (28, .istore_n 2, 1, 2, 0, []),
  (29, .iconst 0, 1, 0, nI 0, []),
  (30, .istore_n 3, 1, 3, 0, []),
  (31, .iconst 0, 1, 0, nI 0, []),
  (32, .istore 4, 2, 4, 0, []),
  (34, .iload 4, 2, 4, 0, []),
  (36, .iconst 4, 1, 0, nI 4, []),
  (37, .if_icmp .ge 27, 3, 64, 0, []),
  (40, .aload_n 0, 1, 0, 0, []),
  (41, .aload_n 1, 1, 1, 0, []),
  (42, .iload_n 2, 1, 2, 0, []),
  (43, .iload 4, 2, 4, 0, []),
  (45, .invokevirtual 381, 3, 0, 0, []),
  (48, .ifCond .eq 10, 3, 58, 0, []),
  (51, .iload_n 3, 1, 3, 0, []),
  (52, .iconst 1, 1, 0, nI 1, []),
  (53, .iload 4, 2, 4, 0, []),
  (55, .ishl, 1, 0, 0, []),
  (56, .ior, 1, 0, 0, []),
  (57, .istore_n 3, 1, 3, 0, []),
  (58, .iinc 4 1, 3, 4, nI 1, []),
  (61, .goto (-27), 3, 34, 0, []),
  (64, .iload_n 3, 1, 3, 0, []),
  (65, .ireturn, 1, 0, 0, [])]
theorem kk_X7_rankingsThatFit : (k_X7_rankingsThatFit.all fun e => mChk cX7_rankingsThatFit e.1 e.2) = true := by decide +kernel
def l_X7_rankingsThatFit : List (Nat × Nat × (mG → mT)) := [(3 * 381, 3 + 1, t_X7_wouldBeSo)]
def f_X7_rankingsThatFit (g : mG) : mF := (mLk k_X7_rankingsThatFit, mLk fl_RX7, mLk (l_X7_rankingsThatFit.map fun e => (e.1, e.2.1, e.2.2 g)), mLk ([] : List (Nat × mV)), mLk ([] : List (Nat × mV)), some .int)
theorem m_X7_rankingsThatFit (g : mG) : mMono (f_X7_rankingsThatFit g) := mMonoL (g := g) (l := l_X7_rankingsThatFit) (List.forall_mem_cons.mpr ⟨mo_X7_wouldBeSo, fun _ h => absurd h List.not_mem_nil⟩) rfl

theorem v_rk_40 (g : mG) (M : mM) (P : mP) 
    (h : (¬ (M 14 2) = (-1) → mRun (mSx g) (f_X7_rankingsThatFit g) P (34, [some (.inr (some 0)), some (.inr (some 40)), some (.inl (M 14 3)), some (.inl (nI 0)), some (.inl (nI 0))], [], M)) ∧ (¬ (¬ (M 14 2) = (-1)) → mRun (mSx g) (f_X7_rankingsThatFit g) P (34, [some (.inr (some 0)), some (.inr (some 40)), some (.inl (nI 4)), some (.inl (nI 0)), some (.inl (nI 0))], [], M))) :
    mRun (mSx g) (f_X7_rankingsThatFit g) P (0, [some (.inr (some 0)), some (.inr (some 40)), none, none, none], [], M) := mRun.vc (m_X7_rankingsThatFit g) [34] 16 h

theorem v_rkl_40 (g : mG) (M : mM) (P : mP) (t b i : Int32)
    (h : ((nI 4) ≤ i → P (some (.inl b)) M) ∧ (¬ ((nI 4) ≤ i) → ∃ x2 : Nat × aZ × Int32 × Nat, pre_X7_wouldBeSo x2 [.inr (some 0), .inr (some 40), .inl t, .inl i] M ∧ ∀ (r4 : Int32) (M3 : mM), post_X7_wouldBeSo x2 [.inr (some 0), .inr (some 40), .inl t, .inl i] M r4 M3 → ((r4 = 0 → mRun (mSx g) (f_X7_rankingsThatFit g) P (34, [some (.inr (some 0)), some (.inr (some 40)), some (.inl t), some (.inl b), some (.inl (i + (nI 1)))], [], M3)) ∧ (¬ (r4 = 0) → mRun (mSx g) (f_X7_rankingsThatFit g) P (34, [some (.inr (some 0)), some (.inr (some 40)), some (.inl t), some (.inl (b ||| ((nI 1) <<< (i &&& 31)))), some (.inl (i + (nI 1)))], [], M3))))) :
    mRun (mSx g) (f_X7_rankingsThatFit g) P (34, [some (.inr (some 0)), some (.inr (some 40)), some (.inl t), some (.inl b), some (.inl i)], [], M) := mRun.vc (m_X7_rankingsThatFit g) [34] 18 h

theorem rk_loop_40 (g : mG) (M : mM) (P : mP) (z : aZ) (hR : RpC M z) (hI : zInv z) (hP : P (some (.inl (bS (fun h => dSo (zT z.2.1) (z.2.2.2 0) (trN (zT z.2.1)) h) 4))) M) :
    ∀ (j i : Nat), i + j = 4 → mRun (mSx g) (f_X7_rankingsThatFit g) P (34, [some (.inr (some 0)), some (.inr (some 40)), some (.inl (trN (zT z.2.1))), some (.inl (bS (fun h => dSo (zT z.2.1) (z.2.2.2 0) (trN (zT z.2.1)) h) i)), some (.inl (nI i))], [], M)
  | 0, i, h => by
    obtain rfl : i = 4 := by omega
    exact v_rkl_40 g M P _ _ _ ⟨fun _ => hP, fun w => absurd (nI_le (Nat.le_refl _) (by decide)) w⟩
  | j + 1, i, h => by
    refine v_rkl_40 g M P _ _ _ ⟨fun w => absurd w (nI_ge (by omega) (by decide)), fun _ => ?_⟩
    refine ⟨(0, z, trN (zT z.2.1), i), ⟨(by decide : 0 < 4), rfl, hR, hI, by show i < 4; omega⟩, fun r M2 hr => ?_⟩
    obtain ⟨hr1, rfl⟩ := hr
    have hr2 : r = mb (dSo (zT z.2.1) (z.2.2.2 0) (trN (zT z.2.1)) i = true) := hr1
    have go := rk_loop_40 g M2 P z hR hI hP j (i + 1) (by omega)
    rw [hr2, nI_add, mb_0]
    refine ⟨fun w => ?_, fun w => ?_⟩
    · rw [bS, if_neg w] at go
      exact go
    · rw [bS, if_pos (Classical.not_not.mp w)] at go
      exact go
theorem rk_run_40 (g : mG) (M : mM) (P : mP) (z : aZ) (hR : RpC M z) (hI : zInv z) (hP : P (some (.inl (tRk (zT z.2.1) (z.2.2.2 0)))) M) :
    mRun (mSx g) (f_X7_rankingsThatFit g) P (0, [some (.inr (some 0)), some (.inr (some 40)), none, none, none], [], M) := by
  have b2 : M 14 2 = oI ((zT z.2.1).2.1.2.1.map fun q => q.1) := hR.2.2.2.1.2.1.2.2.2.1
  have b3 : M 14 3 = trumpI (zT z.2.1) := hR.2.2.2.1.2.1.2.2.2.2.1
  unfold tRk at hP
  have go := rk_loop_40 g M P z hR hI hP 4 0 rfl
  rw [bS_0] at go
  refine v_rk_40 g M P ?_
  rw [b2, b3]
  cases ho : (zT z.2.1).2.1.2.1 with
  | none =>
    rw [show trN (zT z.2.1) = nI 4 by unfold trN; rw [ho]; rfl] at go
    exact ⟨fun w => absurd rfl w, fun _ => go⟩
  | some q =>
    obtain ⟨n, t, u⟩ := q
    have hn := (hI.T.2.1.2.2.2.1 n t u ho).2.1
    rw [show trN (zT z.2.1) = trumpI (zT z.2.1) by unfold trN; rw [ho]; rfl] at go
    refine ⟨fun _ => go, fun w => ?_⟩
    have w' : nI n = -1 := Classical.not_not.mp w
    exfalso
    rw [fa_eq, nI_toInt (by omega), toInt_m1] at w'
    omega
theorem v_rk_42 (g : mG) (M : mM) (P : mP) 
    (h : (¬ (M 14 2) = (-1) → mRun (mSx g) (f_X7_rankingsThatFit g) P (34, [some (.inr (some 0)), some (.inr (some 42)), some (.inl (M 14 3)), some (.inl (nI 0)), some (.inl (nI 0))], [], M)) ∧ (¬ (¬ (M 14 2) = (-1)) → mRun (mSx g) (f_X7_rankingsThatFit g) P (34, [some (.inr (some 0)), some (.inr (some 42)), some (.inl (nI 4)), some (.inl (nI 0)), some (.inl (nI 0))], [], M))) :
    mRun (mSx g) (f_X7_rankingsThatFit g) P (0, [some (.inr (some 0)), some (.inr (some 42)), none, none, none], [], M) := mRun.vc (m_X7_rankingsThatFit g) [34] 16 h

theorem v_rkl_42 (g : mG) (M : mM) (P : mP) (t b i : Int32)
    (h : ((nI 4) ≤ i → P (some (.inl b)) M) ∧ (¬ ((nI 4) ≤ i) → ∃ x2 : Nat × aZ × Int32 × Nat, pre_X7_wouldBeSo x2 [.inr (some 0), .inr (some 42), .inl t, .inl i] M ∧ ∀ (r4 : Int32) (M3 : mM), post_X7_wouldBeSo x2 [.inr (some 0), .inr (some 42), .inl t, .inl i] M r4 M3 → ((r4 = 0 → mRun (mSx g) (f_X7_rankingsThatFit g) P (34, [some (.inr (some 0)), some (.inr (some 42)), some (.inl t), some (.inl b), some (.inl (i + (nI 1)))], [], M3)) ∧ (¬ (r4 = 0) → mRun (mSx g) (f_X7_rankingsThatFit g) P (34, [some (.inr (some 0)), some (.inr (some 42)), some (.inl t), some (.inl (b ||| ((nI 1) <<< (i &&& 31)))), some (.inl (i + (nI 1)))], [], M3))))) :
    mRun (mSx g) (f_X7_rankingsThatFit g) P (34, [some (.inr (some 0)), some (.inr (some 42)), some (.inl t), some (.inl b), some (.inl i)], [], M) := mRun.vc (m_X7_rankingsThatFit g) [34] 18 h

theorem rk_loop_42 (g : mG) (M : mM) (P : mP) (z : aZ) (hR : RpC M z) (hI : zInv z) (hP : P (some (.inl (bS (fun h => dSo (zT z.2.1) (z.2.2.2 1) (trN (zT z.2.1)) h) 4))) M) :
    ∀ (j i : Nat), i + j = 4 → mRun (mSx g) (f_X7_rankingsThatFit g) P (34, [some (.inr (some 0)), some (.inr (some 42)), some (.inl (trN (zT z.2.1))), some (.inl (bS (fun h => dSo (zT z.2.1) (z.2.2.2 1) (trN (zT z.2.1)) h) i)), some (.inl (nI i))], [], M)
  | 0, i, h => by
    obtain rfl : i = 4 := by omega
    exact v_rkl_42 g M P _ _ _ ⟨fun _ => hP, fun w => absurd (nI_le (Nat.le_refl _) (by decide)) w⟩
  | j + 1, i, h => by
    refine v_rkl_42 g M P _ _ _ ⟨fun w => absurd w (nI_ge (by omega) (by decide)), fun _ => ?_⟩
    refine ⟨(1, z, trN (zT z.2.1), i), ⟨(by decide : 1 < 4), rfl, hR, hI, by show i < 4; omega⟩, fun r M2 hr => ?_⟩
    obtain ⟨hr1, rfl⟩ := hr
    have hr2 : r = mb (dSo (zT z.2.1) (z.2.2.2 1) (trN (zT z.2.1)) i = true) := hr1
    have go := rk_loop_42 g M2 P z hR hI hP j (i + 1) (by omega)
    rw [hr2, nI_add, mb_0]
    refine ⟨fun w => ?_, fun w => ?_⟩
    · rw [bS, if_neg w] at go
      exact go
    · rw [bS, if_pos (Classical.not_not.mp w)] at go
      exact go
theorem rk_run_42 (g : mG) (M : mM) (P : mP) (z : aZ) (hR : RpC M z) (hI : zInv z) (hP : P (some (.inl (tRk (zT z.2.1) (z.2.2.2 1)))) M) :
    mRun (mSx g) (f_X7_rankingsThatFit g) P (0, [some (.inr (some 0)), some (.inr (some 42)), none, none, none], [], M) := by
  have b2 : M 14 2 = oI ((zT z.2.1).2.1.2.1.map fun q => q.1) := hR.2.2.2.1.2.1.2.2.2.1
  have b3 : M 14 3 = trumpI (zT z.2.1) := hR.2.2.2.1.2.1.2.2.2.2.1
  unfold tRk at hP
  have go := rk_loop_42 g M P z hR hI hP 4 0 rfl
  rw [bS_0] at go
  refine v_rk_42 g M P ?_
  rw [b2, b3]
  cases ho : (zT z.2.1).2.1.2.1 with
  | none =>
    rw [show trN (zT z.2.1) = nI 4 by unfold trN; rw [ho]; rfl] at go
    exact ⟨fun w => absurd rfl w, fun _ => go⟩
  | some q =>
    obtain ⟨n, t, u⟩ := q
    have hn := (hI.T.2.1.2.2.2.1 n t u ho).2.1
    rw [show trN (zT z.2.1) = trumpI (zT z.2.1) by unfold trN; rw [ho]; rfl] at go
    refine ⟨fun _ => go, fun w => ?_⟩
    have w' : nI n = -1 := Classical.not_not.mp w
    exfalso
    rw [fa_eq, nI_toInt (by omega), toInt_m1] at w'
    omega
theorem v_rk_44 (g : mG) (M : mM) (P : mP) 
    (h : (¬ (M 14 2) = (-1) → mRun (mSx g) (f_X7_rankingsThatFit g) P (34, [some (.inr (some 0)), some (.inr (some 44)), some (.inl (M 14 3)), some (.inl (nI 0)), some (.inl (nI 0))], [], M)) ∧ (¬ (¬ (M 14 2) = (-1)) → mRun (mSx g) (f_X7_rankingsThatFit g) P (34, [some (.inr (some 0)), some (.inr (some 44)), some (.inl (nI 4)), some (.inl (nI 0)), some (.inl (nI 0))], [], M))) :
    mRun (mSx g) (f_X7_rankingsThatFit g) P (0, [some (.inr (some 0)), some (.inr (some 44)), none, none, none], [], M) := mRun.vc (m_X7_rankingsThatFit g) [34] 16 h

theorem v_rkl_44 (g : mG) (M : mM) (P : mP) (t b i : Int32)
    (h : ((nI 4) ≤ i → P (some (.inl b)) M) ∧ (¬ ((nI 4) ≤ i) → ∃ x2 : Nat × aZ × Int32 × Nat, pre_X7_wouldBeSo x2 [.inr (some 0), .inr (some 44), .inl t, .inl i] M ∧ ∀ (r4 : Int32) (M3 : mM), post_X7_wouldBeSo x2 [.inr (some 0), .inr (some 44), .inl t, .inl i] M r4 M3 → ((r4 = 0 → mRun (mSx g) (f_X7_rankingsThatFit g) P (34, [some (.inr (some 0)), some (.inr (some 44)), some (.inl t), some (.inl b), some (.inl (i + (nI 1)))], [], M3)) ∧ (¬ (r4 = 0) → mRun (mSx g) (f_X7_rankingsThatFit g) P (34, [some (.inr (some 0)), some (.inr (some 44)), some (.inl t), some (.inl (b ||| ((nI 1) <<< (i &&& 31)))), some (.inl (i + (nI 1)))], [], M3))))) :
    mRun (mSx g) (f_X7_rankingsThatFit g) P (34, [some (.inr (some 0)), some (.inr (some 44)), some (.inl t), some (.inl b), some (.inl i)], [], M) := mRun.vc (m_X7_rankingsThatFit g) [34] 18 h

theorem rk_loop_44 (g : mG) (M : mM) (P : mP) (z : aZ) (hR : RpC M z) (hI : zInv z) (hP : P (some (.inl (bS (fun h => dSo (zT z.2.1) (z.2.2.2 2) (trN (zT z.2.1)) h) 4))) M) :
    ∀ (j i : Nat), i + j = 4 → mRun (mSx g) (f_X7_rankingsThatFit g) P (34, [some (.inr (some 0)), some (.inr (some 44)), some (.inl (trN (zT z.2.1))), some (.inl (bS (fun h => dSo (zT z.2.1) (z.2.2.2 2) (trN (zT z.2.1)) h) i)), some (.inl (nI i))], [], M)
  | 0, i, h => by
    obtain rfl : i = 4 := by omega
    exact v_rkl_44 g M P _ _ _ ⟨fun _ => hP, fun w => absurd (nI_le (Nat.le_refl _) (by decide)) w⟩
  | j + 1, i, h => by
    refine v_rkl_44 g M P _ _ _ ⟨fun w => absurd w (nI_ge (by omega) (by decide)), fun _ => ?_⟩
    refine ⟨(2, z, trN (zT z.2.1), i), ⟨(by decide : 2 < 4), rfl, hR, hI, by show i < 4; omega⟩, fun r M2 hr => ?_⟩
    obtain ⟨hr1, rfl⟩ := hr
    have hr2 : r = mb (dSo (zT z.2.1) (z.2.2.2 2) (trN (zT z.2.1)) i = true) := hr1
    have go := rk_loop_44 g M2 P z hR hI hP j (i + 1) (by omega)
    rw [hr2, nI_add, mb_0]
    refine ⟨fun w => ?_, fun w => ?_⟩
    · rw [bS, if_neg w] at go
      exact go
    · rw [bS, if_pos (Classical.not_not.mp w)] at go
      exact go
theorem rk_run_44 (g : mG) (M : mM) (P : mP) (z : aZ) (hR : RpC M z) (hI : zInv z) (hP : P (some (.inl (tRk (zT z.2.1) (z.2.2.2 2)))) M) :
    mRun (mSx g) (f_X7_rankingsThatFit g) P (0, [some (.inr (some 0)), some (.inr (some 44)), none, none, none], [], M) := by
  have b2 : M 14 2 = oI ((zT z.2.1).2.1.2.1.map fun q => q.1) := hR.2.2.2.1.2.1.2.2.2.1
  have b3 : M 14 3 = trumpI (zT z.2.1) := hR.2.2.2.1.2.1.2.2.2.2.1
  unfold tRk at hP
  have go := rk_loop_44 g M P z hR hI hP 4 0 rfl
  rw [bS_0] at go
  refine v_rk_44 g M P ?_
  rw [b2, b3]
  cases ho : (zT z.2.1).2.1.2.1 with
  | none =>
    rw [show trN (zT z.2.1) = nI 4 by unfold trN; rw [ho]; rfl] at go
    exact ⟨fun w => absurd rfl w, fun _ => go⟩
  | some q =>
    obtain ⟨n, t, u⟩ := q
    have hn := (hI.T.2.1.2.2.2.1 n t u ho).2.1
    rw [show trN (zT z.2.1) = trumpI (zT z.2.1) by unfold trN; rw [ho]; rfl] at go
    refine ⟨fun _ => go, fun w => ?_⟩
    have w' : nI n = -1 := Classical.not_not.mp w
    exfalso
    rw [fa_eq, nI_toInt (by omega), toInt_m1] at w'
    omega
theorem v_rk_46 (g : mG) (M : mM) (P : mP) 
    (h : (¬ (M 14 2) = (-1) → mRun (mSx g) (f_X7_rankingsThatFit g) P (34, [some (.inr (some 0)), some (.inr (some 46)), some (.inl (M 14 3)), some (.inl (nI 0)), some (.inl (nI 0))], [], M)) ∧ (¬ (¬ (M 14 2) = (-1)) → mRun (mSx g) (f_X7_rankingsThatFit g) P (34, [some (.inr (some 0)), some (.inr (some 46)), some (.inl (nI 4)), some (.inl (nI 0)), some (.inl (nI 0))], [], M))) :
    mRun (mSx g) (f_X7_rankingsThatFit g) P (0, [some (.inr (some 0)), some (.inr (some 46)), none, none, none], [], M) := mRun.vc (m_X7_rankingsThatFit g) [34] 16 h

theorem v_rkl_46 (g : mG) (M : mM) (P : mP) (t b i : Int32)
    (h : ((nI 4) ≤ i → P (some (.inl b)) M) ∧ (¬ ((nI 4) ≤ i) → ∃ x2 : Nat × aZ × Int32 × Nat, pre_X7_wouldBeSo x2 [.inr (some 0), .inr (some 46), .inl t, .inl i] M ∧ ∀ (r4 : Int32) (M3 : mM), post_X7_wouldBeSo x2 [.inr (some 0), .inr (some 46), .inl t, .inl i] M r4 M3 → ((r4 = 0 → mRun (mSx g) (f_X7_rankingsThatFit g) P (34, [some (.inr (some 0)), some (.inr (some 46)), some (.inl t), some (.inl b), some (.inl (i + (nI 1)))], [], M3)) ∧ (¬ (r4 = 0) → mRun (mSx g) (f_X7_rankingsThatFit g) P (34, [some (.inr (some 0)), some (.inr (some 46)), some (.inl t), some (.inl (b ||| ((nI 1) <<< (i &&& 31)))), some (.inl (i + (nI 1)))], [], M3))))) :
    mRun (mSx g) (f_X7_rankingsThatFit g) P (34, [some (.inr (some 0)), some (.inr (some 46)), some (.inl t), some (.inl b), some (.inl i)], [], M) := mRun.vc (m_X7_rankingsThatFit g) [34] 18 h

theorem rk_loop_46 (g : mG) (M : mM) (P : mP) (z : aZ) (hR : RpC M z) (hI : zInv z) (hP : P (some (.inl (bS (fun h => dSo (zT z.2.1) (z.2.2.2 3) (trN (zT z.2.1)) h) 4))) M) :
    ∀ (j i : Nat), i + j = 4 → mRun (mSx g) (f_X7_rankingsThatFit g) P (34, [some (.inr (some 0)), some (.inr (some 46)), some (.inl (trN (zT z.2.1))), some (.inl (bS (fun h => dSo (zT z.2.1) (z.2.2.2 3) (trN (zT z.2.1)) h) i)), some (.inl (nI i))], [], M)
  | 0, i, h => by
    obtain rfl : i = 4 := by omega
    exact v_rkl_46 g M P _ _ _ ⟨fun _ => hP, fun w => absurd (nI_le (Nat.le_refl _) (by decide)) w⟩
  | j + 1, i, h => by
    refine v_rkl_46 g M P _ _ _ ⟨fun w => absurd w (nI_ge (by omega) (by decide)), fun _ => ?_⟩
    refine ⟨(3, z, trN (zT z.2.1), i), ⟨(by decide : 3 < 4), rfl, hR, hI, by show i < 4; omega⟩, fun r M2 hr => ?_⟩
    obtain ⟨hr1, rfl⟩ := hr
    have hr2 : r = mb (dSo (zT z.2.1) (z.2.2.2 3) (trN (zT z.2.1)) i = true) := hr1
    have go := rk_loop_46 g M2 P z hR hI hP j (i + 1) (by omega)
    rw [hr2, nI_add, mb_0]
    refine ⟨fun w => ?_, fun w => ?_⟩
    · rw [bS, if_neg w] at go
      exact go
    · rw [bS, if_pos (Classical.not_not.mp w)] at go
      exact go
theorem rk_run_46 (g : mG) (M : mM) (P : mP) (z : aZ) (hR : RpC M z) (hI : zInv z) (hP : P (some (.inl (tRk (zT z.2.1) (z.2.2.2 3)))) M) :
    mRun (mSx g) (f_X7_rankingsThatFit g) P (0, [some (.inr (some 0)), some (.inr (some 46)), none, none, none], [], M) := by
  have b2 : M 14 2 = oI ((zT z.2.1).2.1.2.1.map fun q => q.1) := hR.2.2.2.1.2.1.2.2.2.1
  have b3 : M 14 3 = trumpI (zT z.2.1) := hR.2.2.2.1.2.1.2.2.2.2.1
  unfold tRk at hP
  have go := rk_loop_46 g M P z hR hI hP 4 0 rfl
  rw [bS_0] at go
  refine v_rk_46 g M P ?_
  rw [b2, b3]
  cases ho : (zT z.2.1).2.1.2.1 with
  | none =>
    rw [show trN (zT z.2.1) = nI 4 by unfold trN; rw [ho]; rfl] at go
    exact ⟨fun w => absurd rfl w, fun _ => go⟩
  | some q =>
    obtain ⟨n, t, u⟩ := q
    have hn := (hI.T.2.1.2.2.2.1 n t u ho).2.1
    rw [show trN (zT z.2.1) = trumpI (zT z.2.1) by unfold trN; rw [ho]; rfl] at go
    refine ⟨fun _ => go, fun w => ?_⟩
    have w' : nI n = -1 := Classical.not_not.mp w
    exfalso
    rw [fa_eq, nI_toInt (by omega), toInt_m1] at w'
    omega
theorem run_X7_rankingsThatFit : mRunOf 5 t_X7_rankingsThatFit f_X7_rankingsThatFit := fun g as M P hT => by
  obtain ⟨⟨k, z⟩, ⟨h1, rfl, h3, h4⟩, hP⟩ := hT
  refine ⟨Nat.le_of_ble_eq_true rfl, ?_⟩
  dsimp only at h1 h3 h4
  have hP' := hP _ _ ⟨rfl, rfl⟩
  rcases (by omega : k = 0 ∨ k = 1 ∨ k = 2 ∨ k = 3) with rfl | rfl | rfl | rfl
  · exact rk_run_40 g M P z h3 h4 hP'
  · exact rk_run_42 g M P z h3 h4 hP'
  · exact rk_run_44 g M P z h3 h4 hP'
  · exact rk_run_46 g M P z h3 h4 hP'
theorem ok_X7_rankingsThatFit : mOK yX7_rankingsThatFit cX7_rankingsThatFit 5 (some .int) 4 t_X7_rankingsThatFit := mOK.of f_X7_rankingsThatFit (by decide) (fun _ => rfl) (fun g => mCodeOK kk_X7_rankingsThatFit) (fun g => mFldL fk_RX7 rfl) (fun g idx v h => by cases h) (fun g idx v h => by cases h) (mCalL (l := l_X7_rankingsThatFit) (List.forall_mem_cons.mpr ⟨mSite.V (idx := 381) ok_X7_wouldBeSo (by decide) (by decide) rv_X7_wouldBeSo wc_X7_wouldBeSo wk_RX7_381 wi_X7_wouldBeSo wl_X7_wouldBeSo wn_RX7 wd_X7_wouldBeSo, fun _ h => absurd h List.not_mem_nil⟩) (fun _ => rfl)) run_X7_rankingsThatFit

def F_tells (z : aZ) (as : List Int32) : Int32 × aZ := (match as with
  | [s, w] => match ix s 4 with
    | none => -2
    | some k => match ix w 3 with
      | none => -2
      | some j => if (z.2.2.2 k).1 = -1 then -11 else if 8 < (z.2.2.2 k).2.1 then -2 else if j = 0 then tFirst (zT z.2.1) (z.2.2.2 k) else if j = 1 then tTr (zT z.2.1) (z.2.2.2 k) else tRk (zT z.2.1) (z.2.2.2 k)
  | _ => 0, z)
abbrev t_X7_tells : mG → mT := pub 2 F_tells
theorem mo_X7_tells : mMn t_X7_tells := pub_mono
theorem rv_X7_tells : mHasR yX7_tells 2 t_X7_tells := pub_recv rfl
def k_X7_tells : List (Nat × mI) := [(0, .aload_n 0, 1, 0, 0, []),
  (1, .iload_n 1, 1, 1, 0, []),
  (2, .invokevirtual 246, 3, 0, 0, []),
  (5, .astore_n 3, 1, 3, 0, []),
  (6, .aload_n 3, 1, 3, 0, []),
  (7, .ifnull 12, 3, 19, 0, []),
  (10, .iload_n 2, 1, 2, 0, []),
  (11, .ifCond .lt 8, 3, 19, 0, []),
  (14, .iload_n 2, 1, 2, 0, []),
  (15, .iconst 2, 1, 0, nI 2, []),
  (16, .if_icmp .le 6, 3, 22, 0, []),
  (19, .bipush (-2), 2, 0, -2, []),
  (21, .ireturn, 1, 0, 0, []),
  (22, .aload_n 3, 1, 3, 0, []),
  (23, .invokevirtual 250, 3, 0, 0, []),
  (26, .ifCond .eq 6, 3, 32, 0, []),
  (29, .bipush (-11), 2, 0, -11, []),
  (31, .ireturn, 1, 0, 0, []),
  (32, .aload_n 3, 1, 3, 0, []),
  (33, .getfield 253, 3, 0, 0, []),
  (36, .bipush 8, 2, 0, nI 8, []),
  (38, .if_icmp .le 6, 3, 44, 0, []),
  (41, .bipush (-2), 2, 0, -2, []),
  (43, .ireturn, 1, 0, 0, []),
  (44, .iload_n 2, 1, 2, 0, []),
  (45, .lookupswitch 39 #[(0, 27), (1, 33)], 27, 84, 0, [(nI 0, 72), (nI 1, 78)]),
  (72, .aload_n 0, 1, 0, 0, []),
  (73, .aload_n 3, 1, 3, 0, []),
  (74, .invokevirtual 254, 3, 0, 0, []),
  (77, .ireturn, 1, 0, 0, []),
  (78, .aload_n 0, 1, 0, 0, []),
  (79, .aload_n 3, 1, 3, 0, []),
  (80, .invokevirtual 258, 3, 0, 0, []),
  (83, .ireturn, 1, 0, 0, []),
  (84, .aload_n 0, 1, 0, 0, []),
  (85, .aload_n 3, 1, 3, 0, []),
  (86, .invokevirtual 261, 3, 0, 0, []),
  (89, .ireturn, 1, 0, 0, [])]
theorem kk_X7_tells : (k_X7_tells.all fun e => mChk cX7_tells e.1 e.2) = true := by decide +kernel
def l_X7_tells : List (Nat × Nat × (mG → mT)) := [(3 * 246, 1 + 1, t_X7_sheetAt), (3 * 250, 0 + 1, t_X4_isMissing), (3 * 254, 1 + 1, t_X7_firstOtherwise), (3 * 258, 1 + 1, t_X7_trumpsThatFit), (3 * 261, 1 + 1, t_X7_rankingsThatFit)]
def f_X7_tells (g : mG) : mF := (mLk k_X7_tells, mLk fl_RX7, mLk (l_X7_tells.map fun e => (e.1, e.2.1, e.2.2 g)), mLk ([] : List (Nat × mV)), mLk ([] : List (Nat × mV)), some .int)
theorem m_X7_tells (g : mG) : mMono (f_X7_tells g) := mMonoL (g := g) (l := l_X7_tells) (List.forall_mem_cons.mpr ⟨mo_X7_sheetAt, List.forall_mem_cons.mpr ⟨mo_X4_isMissing, List.forall_mem_cons.mpr ⟨mo_X7_firstOtherwise, List.forall_mem_cons.mpr ⟨mo_X7_trumpsThatFit, List.forall_mem_cons.mpr ⟨mo_X7_rankingsThatFit, fun _ h => absurd h List.not_mem_nil⟩⟩⟩⟩⟩) rfl

theorem v_tells_0 (g : mG) (M : mM) (P : mP) (x y : Int32)
    (h : mRun (mSx g) (f_X7_tells g) P (5, [some (.inr (some 0)), some (.inl x), some (.inl y), none], [.inr (shR x)], M)) :
    mRun (mSx g) (f_X7_tells g) P (0, [some (.inr (some 0)), some (.inl x), some (.inl y), none], [], M) := mRun.vc (m_X7_tells g) [5] 4 h

theorem v_tells_N (g : mG) (M : mM) (P : mP) (x y : Int32)
    (h : P (some (.inl (-2))) M) :
    mRun (mSx g) (f_X7_tells g) P (5, [some (.inr (some 0)), some (.inl x), some (.inl y), none], [.inr none], M) := mRun.vc (m_X7_tells g) [] 5 h

theorem v_tells_40 (g : mG) (M : mM) (P : mP) (x y : Int32)
    (h : (y < 0 → P (some (.inl (-2))) M) ∧ (¬ (y < 0) → (y ≤ (nI 2) → (¬ (M 40 1) = (-1) → ((nI 0) = 0 ∨ (nI 0) = 1) ∧ (mRun (mSx g) (f_X7_tells g) P (26, [some (.inr (some 0)), some (.inl x), some (.inl y), some (.inr (some 40))], [.inl (nI 0)], M))) ∧ (¬ (¬ (M 40 1) = (-1)) → ((nI 1) = 0 ∨ (nI 1) = 1) ∧ (mRun (mSx g) (f_X7_tells g) P (26, [some (.inr (some 0)), some (.inl x), some (.inl y), some (.inr (some 40))], [.inl (nI 1)], M)))) ∧ (¬ (y ≤ (nI 2)) → P (some (.inl (-2))) M))) :
    mRun (mSx g) (f_X7_tells g) P (5, [some (.inr (some 0)), some (.inl x), some (.inl y), none], [.inr (some 40)], M) := mRun.vc (m_X7_tells g) [26] 11 h

theorem v_tellsb_40 (g : mG) (M : mM) (P : mP) (x y b : Int32)
    (h : (b = 0 → ((M 40 2) ≤ (nI 8) → (y = (nI 0) → ∃ x4 : Nat × aZ, pre_X7_firstOtherwise x4 [.inr (some 0), .inr (some 40)] M ∧ ∀ (r6 : Int32) (M5 : mM), post_X7_firstOtherwise x4 [.inr (some 0), .inr (some 40)] M r6 M5 → (P (some (.inl r6)) M5)) ∧ (¬ y = (nI 0) → (y = (nI 1) → ∃ x8 : Nat × aZ, pre_X7_trumpsThatFit x8 [.inr (some 0), .inr (some 40)] M ∧ ∀ (r10 : Int32) (M9 : mM), post_X7_trumpsThatFit x8 [.inr (some 0), .inr (some 40)] M r10 M9 → (P (some (.inl r10)) M9)) ∧ (¬ y = (nI 1) → ∃ x11 : Nat × aZ, pre_X7_rankingsThatFit x11 [.inr (some 0), .inr (some 40)] M ∧ ∀ (r13 : Int32) (M12 : mM), post_X7_rankingsThatFit x11 [.inr (some 0), .inr (some 40)] M r13 M12 → (P (some (.inl r13)) M12)))) ∧ (¬ ((M 40 2) ≤ (nI 8)) → P (some (.inl (-2))) M)) ∧ (¬ (b = 0) → P (some (.inl (-11))) M)) :
    mRun (mSx g) (f_X7_tells g) P (26, [some (.inr (some 0)), some (.inl x), some (.inl y), some (.inr (some 40))], [.inl b], M) := mRun.vc (m_X7_tells g) [] 11 h

theorem tells_run_40 (g : mG) (M : mM) (P : mP) (z : aZ) (y : Int32) (hR : RpC M z) (hI : zInv z) (hP : pubP M P (F_tells z [nI 0, y])) :
    mRun (mSx g) (f_X7_tells g) P (5, [some (.inr (some 0)), some (.inl (nI 0)), some (.inl y), none], [.inr (some 40)], M) := by
  have e1 : ix (nI 0) 4 = some 0 := ix_at (by decide) (by decide)
  have hQ : ∀ v, v = (F_tells z [nI 0, y]).1 → P (some (.inl v)) M := fun v e => hP v M e hR FrC.refl
  have hsz := (hI.2.2.2 0 (by decide)).2.1
  have hs1 : M 40 1 = (z.2.2.2 0).1 := (hR.2.2.2.2.1 0 (by decide)).1
  have hs2 : M 40 2 = nI (z.2.2.2 0).2.1 := (hR.2.2.2.2.1 0 (by decide)).2.1
  refine v_tells_40 g M P _ _ ?_
  rcases ix_cs y (n := 3) (by decide) with ⟨hy, e2⟩ | ⟨j, hj, rfl, e2⟩
  · rw [show (F_tells z [nI 0, y]).1 = -2 by simp only [F_tells, e1, e2]] at hQ
    refine ⟨fun _ => hQ _ rfl, fun w1 => ⟨fun w2 => ?_, fun _ => hQ _ rfl⟩⟩
    exfalso
    simp (disch := omega) only [fa_lt, fa_le, nI_toInt, Int32.toInt_zero] at hy w1 w2
    omega
  rw [show (F_tells z [nI 0, nI j]).1 = if (z.2.2.2 0).1 = -1 then -11 else if 8 < (z.2.2.2 0).2.1 then -2 else if j = 0 then tFirst (zT z.2.1) (z.2.2.2 0) else if j = 1 then tTr (zT z.2.1) (z.2.2.2 0) else tRk (zT z.2.1) (z.2.2.2 0) by simp only [F_tells, e1, e2]] at hQ
  refine ⟨fun h => absurd h (nI_pos (by omega)), fun _ => ⟨fun _ => ?_, fun h => absurd (nI_le (by omega) (by decide)) h⟩⟩
  rw [hs1]
  refine ⟨fun h => ⟨Or.inl rfl, v_tellsb_40 g M P _ _ _ ?_⟩, fun h => ⟨Or.inr rfl, v_tellsb_40 g M P _ _ _ ?_⟩⟩
  · rw [if_neg h] at hQ
    refine ⟨fun _ => ?_, fun w => absurd rfl w⟩
    rw [hs2]
    refine ⟨fun w => ?_, fun w => ?_⟩
    · rw [if_neg (by have := (nI_leI (by omega) (by decide)).mp w; omega)] at hQ
      rcases (by omega : j = 0 ∨ j = 1 ∨ j = 2) with rfl | rfl | rfl
      · rw [if_pos rfl] at hQ
        refine ⟨fun _ => ⟨(0, z), ⟨(by decide : 0 < 4), rfl, hR, hI⟩, fun r M2 hr => ?_⟩, fun w => absurd rfl w⟩
        obtain ⟨hr1, rfl⟩ := hr
        exact hQ _ hr1
      · rw [if_neg (by decide), if_pos rfl] at hQ
        refine ⟨fun w => absurd w (by decide), fun _ => ⟨fun _ => ⟨(0, z), ⟨(by decide : 0 < 4), rfl, hR, hI⟩, fun r M2 hr => ?_⟩, fun w => absurd rfl w⟩⟩
        obtain ⟨hr1, rfl⟩ := hr
        exact hQ _ hr1
      · rw [if_neg (by decide), if_neg (by decide)] at hQ
        refine ⟨fun w => absurd w (by decide), fun _ => ⟨fun w => absurd w (by decide), fun _ => ⟨(0, z), ⟨(by decide : 0 < 4), rfl, hR, hI⟩, fun r M2 hr => ?_⟩⟩⟩
        obtain ⟨hr1, rfl⟩ := hr
        exact hQ _ hr1
    · rw [if_pos (Nat.lt_of_not_le (fun y => w (nI_le y (by decide))))] at hQ
      exact hQ _ rfl
  · rw [if_pos (Classical.not_not.mp h)] at hQ
    exact ⟨fun w => absurd w (by decide), fun _ => hQ _ rfl⟩
theorem v_tells_42 (g : mG) (M : mM) (P : mP) (x y : Int32)
    (h : (y < 0 → P (some (.inl (-2))) M) ∧ (¬ (y < 0) → (y ≤ (nI 2) → (¬ (M 42 1) = (-1) → ((nI 0) = 0 ∨ (nI 0) = 1) ∧ (mRun (mSx g) (f_X7_tells g) P (26, [some (.inr (some 0)), some (.inl x), some (.inl y), some (.inr (some 42))], [.inl (nI 0)], M))) ∧ (¬ (¬ (M 42 1) = (-1)) → ((nI 1) = 0 ∨ (nI 1) = 1) ∧ (mRun (mSx g) (f_X7_tells g) P (26, [some (.inr (some 0)), some (.inl x), some (.inl y), some (.inr (some 42))], [.inl (nI 1)], M)))) ∧ (¬ (y ≤ (nI 2)) → P (some (.inl (-2))) M))) :
    mRun (mSx g) (f_X7_tells g) P (5, [some (.inr (some 0)), some (.inl x), some (.inl y), none], [.inr (some 42)], M) := mRun.vc (m_X7_tells g) [26] 11 h

theorem v_tellsb_42 (g : mG) (M : mM) (P : mP) (x y b : Int32)
    (h : (b = 0 → ((M 42 2) ≤ (nI 8) → (y = (nI 0) → ∃ x4 : Nat × aZ, pre_X7_firstOtherwise x4 [.inr (some 0), .inr (some 42)] M ∧ ∀ (r6 : Int32) (M5 : mM), post_X7_firstOtherwise x4 [.inr (some 0), .inr (some 42)] M r6 M5 → (P (some (.inl r6)) M5)) ∧ (¬ y = (nI 0) → (y = (nI 1) → ∃ x8 : Nat × aZ, pre_X7_trumpsThatFit x8 [.inr (some 0), .inr (some 42)] M ∧ ∀ (r10 : Int32) (M9 : mM), post_X7_trumpsThatFit x8 [.inr (some 0), .inr (some 42)] M r10 M9 → (P (some (.inl r10)) M9)) ∧ (¬ y = (nI 1) → ∃ x11 : Nat × aZ, pre_X7_rankingsThatFit x11 [.inr (some 0), .inr (some 42)] M ∧ ∀ (r13 : Int32) (M12 : mM), post_X7_rankingsThatFit x11 [.inr (some 0), .inr (some 42)] M r13 M12 → (P (some (.inl r13)) M12)))) ∧ (¬ ((M 42 2) ≤ (nI 8)) → P (some (.inl (-2))) M)) ∧ (¬ (b = 0) → P (some (.inl (-11))) M)) :
    mRun (mSx g) (f_X7_tells g) P (26, [some (.inr (some 0)), some (.inl x), some (.inl y), some (.inr (some 42))], [.inl b], M) := mRun.vc (m_X7_tells g) [] 11 h

theorem tells_run_42 (g : mG) (M : mM) (P : mP) (z : aZ) (y : Int32) (hR : RpC M z) (hI : zInv z) (hP : pubP M P (F_tells z [nI 1, y])) :
    mRun (mSx g) (f_X7_tells g) P (5, [some (.inr (some 0)), some (.inl (nI 1)), some (.inl y), none], [.inr (some 42)], M) := by
  have e1 : ix (nI 1) 4 = some 1 := ix_at (by decide) (by decide)
  have hQ : ∀ v, v = (F_tells z [nI 1, y]).1 → P (some (.inl v)) M := fun v e => hP v M e hR FrC.refl
  have hsz := (hI.2.2.2 1 (by decide)).2.1
  have hs1 : M 42 1 = (z.2.2.2 1).1 := (hR.2.2.2.2.1 1 (by decide)).1
  have hs2 : M 42 2 = nI (z.2.2.2 1).2.1 := (hR.2.2.2.2.1 1 (by decide)).2.1
  refine v_tells_42 g M P _ _ ?_
  rcases ix_cs y (n := 3) (by decide) with ⟨hy, e2⟩ | ⟨j, hj, rfl, e2⟩
  · rw [show (F_tells z [nI 1, y]).1 = -2 by simp only [F_tells, e1, e2]] at hQ
    refine ⟨fun _ => hQ _ rfl, fun w1 => ⟨fun w2 => ?_, fun _ => hQ _ rfl⟩⟩
    exfalso
    simp (disch := omega) only [fa_lt, fa_le, nI_toInt, Int32.toInt_zero] at hy w1 w2
    omega
  rw [show (F_tells z [nI 1, nI j]).1 = if (z.2.2.2 1).1 = -1 then -11 else if 8 < (z.2.2.2 1).2.1 then -2 else if j = 0 then tFirst (zT z.2.1) (z.2.2.2 1) else if j = 1 then tTr (zT z.2.1) (z.2.2.2 1) else tRk (zT z.2.1) (z.2.2.2 1) by simp only [F_tells, e1, e2]] at hQ
  refine ⟨fun h => absurd h (nI_pos (by omega)), fun _ => ⟨fun _ => ?_, fun h => absurd (nI_le (by omega) (by decide)) h⟩⟩
  rw [hs1]
  refine ⟨fun h => ⟨Or.inl rfl, v_tellsb_42 g M P _ _ _ ?_⟩, fun h => ⟨Or.inr rfl, v_tellsb_42 g M P _ _ _ ?_⟩⟩
  · rw [if_neg h] at hQ
    refine ⟨fun _ => ?_, fun w => absurd rfl w⟩
    rw [hs2]
    refine ⟨fun w => ?_, fun w => ?_⟩
    · rw [if_neg (by have := (nI_leI (by omega) (by decide)).mp w; omega)] at hQ
      rcases (by omega : j = 0 ∨ j = 1 ∨ j = 2) with rfl | rfl | rfl
      · rw [if_pos rfl] at hQ
        refine ⟨fun _ => ⟨(1, z), ⟨(by decide : 1 < 4), rfl, hR, hI⟩, fun r M2 hr => ?_⟩, fun w => absurd rfl w⟩
        obtain ⟨hr1, rfl⟩ := hr
        exact hQ _ hr1
      · rw [if_neg (by decide), if_pos rfl] at hQ
        refine ⟨fun w => absurd w (by decide), fun _ => ⟨fun _ => ⟨(1, z), ⟨(by decide : 1 < 4), rfl, hR, hI⟩, fun r M2 hr => ?_⟩, fun w => absurd rfl w⟩⟩
        obtain ⟨hr1, rfl⟩ := hr
        exact hQ _ hr1
      · rw [if_neg (by decide), if_neg (by decide)] at hQ
        refine ⟨fun w => absurd w (by decide), fun _ => ⟨fun w => absurd w (by decide), fun _ => ⟨(1, z), ⟨(by decide : 1 < 4), rfl, hR, hI⟩, fun r M2 hr => ?_⟩⟩⟩
        obtain ⟨hr1, rfl⟩ := hr
        exact hQ _ hr1
    · rw [if_pos (Nat.lt_of_not_le (fun y => w (nI_le y (by decide))))] at hQ
      exact hQ _ rfl
  · rw [if_pos (Classical.not_not.mp h)] at hQ
    exact ⟨fun w => absurd w (by decide), fun _ => hQ _ rfl⟩
theorem v_tells_44 (g : mG) (M : mM) (P : mP) (x y : Int32)
    (h : (y < 0 → P (some (.inl (-2))) M) ∧ (¬ (y < 0) → (y ≤ (nI 2) → (¬ (M 44 1) = (-1) → ((nI 0) = 0 ∨ (nI 0) = 1) ∧ (mRun (mSx g) (f_X7_tells g) P (26, [some (.inr (some 0)), some (.inl x), some (.inl y), some (.inr (some 44))], [.inl (nI 0)], M))) ∧ (¬ (¬ (M 44 1) = (-1)) → ((nI 1) = 0 ∨ (nI 1) = 1) ∧ (mRun (mSx g) (f_X7_tells g) P (26, [some (.inr (some 0)), some (.inl x), some (.inl y), some (.inr (some 44))], [.inl (nI 1)], M)))) ∧ (¬ (y ≤ (nI 2)) → P (some (.inl (-2))) M))) :
    mRun (mSx g) (f_X7_tells g) P (5, [some (.inr (some 0)), some (.inl x), some (.inl y), none], [.inr (some 44)], M) := mRun.vc (m_X7_tells g) [26] 11 h

theorem v_tellsb_44 (g : mG) (M : mM) (P : mP) (x y b : Int32)
    (h : (b = 0 → ((M 44 2) ≤ (nI 8) → (y = (nI 0) → ∃ x4 : Nat × aZ, pre_X7_firstOtherwise x4 [.inr (some 0), .inr (some 44)] M ∧ ∀ (r6 : Int32) (M5 : mM), post_X7_firstOtherwise x4 [.inr (some 0), .inr (some 44)] M r6 M5 → (P (some (.inl r6)) M5)) ∧ (¬ y = (nI 0) → (y = (nI 1) → ∃ x8 : Nat × aZ, pre_X7_trumpsThatFit x8 [.inr (some 0), .inr (some 44)] M ∧ ∀ (r10 : Int32) (M9 : mM), post_X7_trumpsThatFit x8 [.inr (some 0), .inr (some 44)] M r10 M9 → (P (some (.inl r10)) M9)) ∧ (¬ y = (nI 1) → ∃ x11 : Nat × aZ, pre_X7_rankingsThatFit x11 [.inr (some 0), .inr (some 44)] M ∧ ∀ (r13 : Int32) (M12 : mM), post_X7_rankingsThatFit x11 [.inr (some 0), .inr (some 44)] M r13 M12 → (P (some (.inl r13)) M12)))) ∧ (¬ ((M 44 2) ≤ (nI 8)) → P (some (.inl (-2))) M)) ∧ (¬ (b = 0) → P (some (.inl (-11))) M)) :
    mRun (mSx g) (f_X7_tells g) P (26, [some (.inr (some 0)), some (.inl x), some (.inl y), some (.inr (some 44))], [.inl b], M) := mRun.vc (m_X7_tells g) [] 11 h

theorem tells_run_44 (g : mG) (M : mM) (P : mP) (z : aZ) (y : Int32) (hR : RpC M z) (hI : zInv z) (hP : pubP M P (F_tells z [nI 2, y])) :
    mRun (mSx g) (f_X7_tells g) P (5, [some (.inr (some 0)), some (.inl (nI 2)), some (.inl y), none], [.inr (some 44)], M) := by
  have e1 : ix (nI 2) 4 = some 2 := ix_at (by decide) (by decide)
  have hQ : ∀ v, v = (F_tells z [nI 2, y]).1 → P (some (.inl v)) M := fun v e => hP v M e hR FrC.refl
  have hsz := (hI.2.2.2 2 (by decide)).2.1
  have hs1 : M 44 1 = (z.2.2.2 2).1 := (hR.2.2.2.2.1 2 (by decide)).1
  have hs2 : M 44 2 = nI (z.2.2.2 2).2.1 := (hR.2.2.2.2.1 2 (by decide)).2.1
  refine v_tells_44 g M P _ _ ?_
  rcases ix_cs y (n := 3) (by decide) with ⟨hy, e2⟩ | ⟨j, hj, rfl, e2⟩
  · rw [show (F_tells z [nI 2, y]).1 = -2 by simp only [F_tells, e1, e2]] at hQ
    refine ⟨fun _ => hQ _ rfl, fun w1 => ⟨fun w2 => ?_, fun _ => hQ _ rfl⟩⟩
    exfalso
    simp (disch := omega) only [fa_lt, fa_le, nI_toInt, Int32.toInt_zero] at hy w1 w2
    omega
  rw [show (F_tells z [nI 2, nI j]).1 = if (z.2.2.2 2).1 = -1 then -11 else if 8 < (z.2.2.2 2).2.1 then -2 else if j = 0 then tFirst (zT z.2.1) (z.2.2.2 2) else if j = 1 then tTr (zT z.2.1) (z.2.2.2 2) else tRk (zT z.2.1) (z.2.2.2 2) by simp only [F_tells, e1, e2]] at hQ
  refine ⟨fun h => absurd h (nI_pos (by omega)), fun _ => ⟨fun _ => ?_, fun h => absurd (nI_le (by omega) (by decide)) h⟩⟩
  rw [hs1]
  refine ⟨fun h => ⟨Or.inl rfl, v_tellsb_44 g M P _ _ _ ?_⟩, fun h => ⟨Or.inr rfl, v_tellsb_44 g M P _ _ _ ?_⟩⟩
  · rw [if_neg h] at hQ
    refine ⟨fun _ => ?_, fun w => absurd rfl w⟩
    rw [hs2]
    refine ⟨fun w => ?_, fun w => ?_⟩
    · rw [if_neg (by have := (nI_leI (by omega) (by decide)).mp w; omega)] at hQ
      rcases (by omega : j = 0 ∨ j = 1 ∨ j = 2) with rfl | rfl | rfl
      · rw [if_pos rfl] at hQ
        refine ⟨fun _ => ⟨(2, z), ⟨(by decide : 2 < 4), rfl, hR, hI⟩, fun r M2 hr => ?_⟩, fun w => absurd rfl w⟩
        obtain ⟨hr1, rfl⟩ := hr
        exact hQ _ hr1
      · rw [if_neg (by decide), if_pos rfl] at hQ
        refine ⟨fun w => absurd w (by decide), fun _ => ⟨fun _ => ⟨(2, z), ⟨(by decide : 2 < 4), rfl, hR, hI⟩, fun r M2 hr => ?_⟩, fun w => absurd rfl w⟩⟩
        obtain ⟨hr1, rfl⟩ := hr
        exact hQ _ hr1
      · rw [if_neg (by decide), if_neg (by decide)] at hQ
        refine ⟨fun w => absurd w (by decide), fun _ => ⟨fun w => absurd w (by decide), fun _ => ⟨(2, z), ⟨(by decide : 2 < 4), rfl, hR, hI⟩, fun r M2 hr => ?_⟩⟩⟩
        obtain ⟨hr1, rfl⟩ := hr
        exact hQ _ hr1
    · rw [if_pos (Nat.lt_of_not_le (fun y => w (nI_le y (by decide))))] at hQ
      exact hQ _ rfl
  · rw [if_pos (Classical.not_not.mp h)] at hQ
    exact ⟨fun w => absurd w (by decide), fun _ => hQ _ rfl⟩
theorem v_tells_46 (g : mG) (M : mM) (P : mP) (x y : Int32)
    (h : (y < 0 → P (some (.inl (-2))) M) ∧ (¬ (y < 0) → (y ≤ (nI 2) → (¬ (M 46 1) = (-1) → ((nI 0) = 0 ∨ (nI 0) = 1) ∧ (mRun (mSx g) (f_X7_tells g) P (26, [some (.inr (some 0)), some (.inl x), some (.inl y), some (.inr (some 46))], [.inl (nI 0)], M))) ∧ (¬ (¬ (M 46 1) = (-1)) → ((nI 1) = 0 ∨ (nI 1) = 1) ∧ (mRun (mSx g) (f_X7_tells g) P (26, [some (.inr (some 0)), some (.inl x), some (.inl y), some (.inr (some 46))], [.inl (nI 1)], M)))) ∧ (¬ (y ≤ (nI 2)) → P (some (.inl (-2))) M))) :
    mRun (mSx g) (f_X7_tells g) P (5, [some (.inr (some 0)), some (.inl x), some (.inl y), none], [.inr (some 46)], M) := mRun.vc (m_X7_tells g) [26] 11 h

theorem v_tellsb_46 (g : mG) (M : mM) (P : mP) (x y b : Int32)
    (h : (b = 0 → ((M 46 2) ≤ (nI 8) → (y = (nI 0) → ∃ x4 : Nat × aZ, pre_X7_firstOtherwise x4 [.inr (some 0), .inr (some 46)] M ∧ ∀ (r6 : Int32) (M5 : mM), post_X7_firstOtherwise x4 [.inr (some 0), .inr (some 46)] M r6 M5 → (P (some (.inl r6)) M5)) ∧ (¬ y = (nI 0) → (y = (nI 1) → ∃ x8 : Nat × aZ, pre_X7_trumpsThatFit x8 [.inr (some 0), .inr (some 46)] M ∧ ∀ (r10 : Int32) (M9 : mM), post_X7_trumpsThatFit x8 [.inr (some 0), .inr (some 46)] M r10 M9 → (P (some (.inl r10)) M9)) ∧ (¬ y = (nI 1) → ∃ x11 : Nat × aZ, pre_X7_rankingsThatFit x11 [.inr (some 0), .inr (some 46)] M ∧ ∀ (r13 : Int32) (M12 : mM), post_X7_rankingsThatFit x11 [.inr (some 0), .inr (some 46)] M r13 M12 → (P (some (.inl r13)) M12)))) ∧ (¬ ((M 46 2) ≤ (nI 8)) → P (some (.inl (-2))) M)) ∧ (¬ (b = 0) → P (some (.inl (-11))) M)) :
    mRun (mSx g) (f_X7_tells g) P (26, [some (.inr (some 0)), some (.inl x), some (.inl y), some (.inr (some 46))], [.inl b], M) := mRun.vc (m_X7_tells g) [] 11 h

theorem tells_run_46 (g : mG) (M : mM) (P : mP) (z : aZ) (y : Int32) (hR : RpC M z) (hI : zInv z) (hP : pubP M P (F_tells z [nI 3, y])) :
    mRun (mSx g) (f_X7_tells g) P (5, [some (.inr (some 0)), some (.inl (nI 3)), some (.inl y), none], [.inr (some 46)], M) := by
  have e1 : ix (nI 3) 4 = some 3 := ix_at (by decide) (by decide)
  have hQ : ∀ v, v = (F_tells z [nI 3, y]).1 → P (some (.inl v)) M := fun v e => hP v M e hR FrC.refl
  have hsz := (hI.2.2.2 3 (by decide)).2.1
  have hs1 : M 46 1 = (z.2.2.2 3).1 := (hR.2.2.2.2.1 3 (by decide)).1
  have hs2 : M 46 2 = nI (z.2.2.2 3).2.1 := (hR.2.2.2.2.1 3 (by decide)).2.1
  refine v_tells_46 g M P _ _ ?_
  rcases ix_cs y (n := 3) (by decide) with ⟨hy, e2⟩ | ⟨j, hj, rfl, e2⟩
  · rw [show (F_tells z [nI 3, y]).1 = -2 by simp only [F_tells, e1, e2]] at hQ
    refine ⟨fun _ => hQ _ rfl, fun w1 => ⟨fun w2 => ?_, fun _ => hQ _ rfl⟩⟩
    exfalso
    simp (disch := omega) only [fa_lt, fa_le, nI_toInt, Int32.toInt_zero] at hy w1 w2
    omega
  rw [show (F_tells z [nI 3, nI j]).1 = if (z.2.2.2 3).1 = -1 then -11 else if 8 < (z.2.2.2 3).2.1 then -2 else if j = 0 then tFirst (zT z.2.1) (z.2.2.2 3) else if j = 1 then tTr (zT z.2.1) (z.2.2.2 3) else tRk (zT z.2.1) (z.2.2.2 3) by simp only [F_tells, e1, e2]] at hQ
  refine ⟨fun h => absurd h (nI_pos (by omega)), fun _ => ⟨fun _ => ?_, fun h => absurd (nI_le (by omega) (by decide)) h⟩⟩
  rw [hs1]
  refine ⟨fun h => ⟨Or.inl rfl, v_tellsb_46 g M P _ _ _ ?_⟩, fun h => ⟨Or.inr rfl, v_tellsb_46 g M P _ _ _ ?_⟩⟩
  · rw [if_neg h] at hQ
    refine ⟨fun _ => ?_, fun w => absurd rfl w⟩
    rw [hs2]
    refine ⟨fun w => ?_, fun w => ?_⟩
    · rw [if_neg (by have := (nI_leI (by omega) (by decide)).mp w; omega)] at hQ
      rcases (by omega : j = 0 ∨ j = 1 ∨ j = 2) with rfl | rfl | rfl
      · rw [if_pos rfl] at hQ
        refine ⟨fun _ => ⟨(3, z), ⟨(by decide : 3 < 4), rfl, hR, hI⟩, fun r M2 hr => ?_⟩, fun w => absurd rfl w⟩
        obtain ⟨hr1, rfl⟩ := hr
        exact hQ _ hr1
      · rw [if_neg (by decide), if_pos rfl] at hQ
        refine ⟨fun w => absurd w (by decide), fun _ => ⟨fun _ => ⟨(3, z), ⟨(by decide : 3 < 4), rfl, hR, hI⟩, fun r M2 hr => ?_⟩, fun w => absurd rfl w⟩⟩
        obtain ⟨hr1, rfl⟩ := hr
        exact hQ _ hr1
      · rw [if_neg (by decide), if_neg (by decide)] at hQ
        refine ⟨fun w => absurd w (by decide), fun _ => ⟨fun w => absurd w (by decide), fun _ => ⟨(3, z), ⟨(by decide : 3 < 4), rfl, hR, hI⟩, fun r M2 hr => ?_⟩⟩⟩
        obtain ⟨hr1, rfl⟩ := hr
        exact hQ _ hr1
    · rw [if_pos (Nat.lt_of_not_le (fun y => w (nI_le y (by decide))))] at hQ
      exact hQ _ rfl
  · rw [if_pos (Classical.not_not.mp h)] at hQ
    exact ⟨fun w => absurd w (by decide), fun _ => hQ _ rfl⟩
theorem run_X7_tells : mRunOf 4 t_X7_tells f_X7_tells := runC2 (by decide) (fun g M P z x y hR hI hP => by
  refine v_tells_0 g M P x y ?_
  rcases ix_cs x (n := 4) (by decide) with ⟨hx, e1⟩ | ⟨j, hj, rfl, e1⟩
  · rw [shR_no e1]
    refine v_tells_N g M P _ _ ?_
    exact hP _ _ (show (-2 : Int32) = (F_tells z [x, y]).1 by simp only [F_tells, e1]) hR FrC.refl
  · rw [shR_at hj]
    rcases (by omega : j = 0 ∨ j = 1 ∨ j = 2 ∨ j = 3) with rfl | rfl | rfl | rfl
    · exact tells_run_40 g M P z y hR hI hP
    · exact tells_run_42 g M P z y hR hI hP
    · exact tells_run_44 g M P z y hR hI hP
    · exact tells_run_46 g M P z y hR hI hP)

theorem ok_X7_tells : mOK yX7_tells cX7_tells 4 (some .int) 5 t_X7_tells := mOK.of f_X7_tells (by decide) (fun _ => rfl) (fun g => mCodeOK kk_X7_tells) (fun g => mFldL fk_RX7 rfl) (fun g idx v h => by cases h) (fun g idx v h => by cases h) (mCalL (l := l_X7_tells) (List.forall_mem_cons.mpr ⟨mSite.V (idx := 246) ok_X7_sheetAt (by decide) (by decide) rv_X7_sheetAt wc_X7_sheetAt wk_RX7_246 wi_X7_sheetAt wl_X7_sheetAt wn_RX7 wd_X7_sheetAt, List.forall_mem_cons.mpr ⟨mSite.V (idx := 250) ok_X4_isMissing (by decide) (by decide) rv_X4_isMissing wc_X4_isMissing wk_RX7_250 wi_X4_isMissing wl_X4_isMissing wn_RX4 wd_X4_isMissing, List.forall_mem_cons.mpr ⟨mSite.V (idx := 254) ok_X7_firstOtherwise (by decide) (by decide) rv_X7_firstOtherwise wc_X7_firstOtherwise wk_RX7_254 wi_X7_firstOtherwise wl_X7_firstOtherwise wn_RX7 wd_X7_firstOtherwise, List.forall_mem_cons.mpr ⟨mSite.V (idx := 258) ok_X7_trumpsThatFit (by decide) (by decide) rv_X7_trumpsThatFit wc_X7_trumpsThatFit wk_RX7_258 wi_X7_trumpsThatFit wl_X7_trumpsThatFit wn_RX7 wd_X7_trumpsThatFit, List.forall_mem_cons.mpr ⟨mSite.V (idx := 261) ok_X7_rankingsThatFit (by decide) (by decide) rv_X7_rankingsThatFit wc_X7_rankingsThatFit wk_RX7_261 wi_X7_rankingsThatFit wl_X7_rankingsThatFit wn_RX7 wd_X7_rankingsThatFit, fun _ h => absurd h List.not_mem_nil⟩⟩⟩⟩⟩) (fun _ => rfl)) run_X7_tells

