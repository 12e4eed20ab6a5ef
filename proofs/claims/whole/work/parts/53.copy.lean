/-! ===== CLASS TrickHouse: copy ===== -/
def dHld (sz : Nat) (i n : Int32) : Bool := decide (0 ≤ i ∧ 0 ≤ n ∧ n ≤ nI sz ∧ i ≤ nI sz - n)
theorem dHld_t {sz : Nat} (h : sz ≤ 40) {i n : Int32} (k : dHld sz i n = true) : ∃ a m : Nat, i = nI a ∧ n = nI m ∧ a + m ≤ sz := by
  obtain ⟨h1, h2, h3, h4⟩ := of_decide_eq_true k
  obtain ⟨a, ha, rfl⟩ := nI_of (Int32.not_lt.mpr h1)
  obtain ⟨m, hm, rfl⟩ := nI_of (Int32.not_lt.mpr h2)
  have h3' := (nI_leI hm (by omega)).mp h3
  rw [pk_sub h3'] at h4
  have h4' := (nI_leI ha (by omega)).mp h4
  exact ⟨a, m, rfl, rfl, by omega⟩
theorem dHld_i {sz a m : Nat} (h : sz ≤ 40) (k : a + m ≤ sz) : dHld sz (nI a) (nI m) = true := by
  unfold dHld
  rw [pk_sub (by omega)]
  exact decide_eq_true ⟨nI_pos' (by omega), nI_pos' (by omega), nI_le (by omega) (by omega), nI_le (by omega) (by omega)⟩
def F_copy (z : aZ) (as : List Int32) : Int32 × aZ := match as with
  | [s, i, o, j, n] => match ix s 4 with
    | none => (-2, z)
    | some k => match ix o 4 with
      | none => (-2, z)
      | some q => if (z.2.2.2 k).1 = -1 ∨ (z.2.2.2 q).1 = -1 then (-11, z) else if ¬ (z.2.2.2 k).1 = (z.2.2.2 q).1 then (-13, z) else if dHld (z.2.2.2 k).2.1 i n = true ∧ dHld (z.2.2.2 q).2.1 j n = true then (n, zS z q ((z.2.2.2 q).1, (z.2.2.2 q).2.1, va_cpy (z.2.2.2 k).2.2 (z.2.2.2 q).2.2 (ub i) (ub j) (ub n))) else (-12, z)
  | _ => (0, z)
theorem hold_cs {sz : Nat} {i n : Int32} (b : Int32) {A : Prop} (X : Int32 → Prop) (hX : ∀ v, v = mb (dHld sz i n = true) → X v) (hz : sz ≤ 40) :
    (i < 0 → (nI 0 = 0 ∨ nI 0 = 1) ∧ X (nI 0)) ∧ (¬ i < 0 → (n < 0 → (nI 0 = 0 ∨ nI 0 = 1) ∧ X (nI 0)) ∧ (¬ n < 0 → (nI sz < n → (nI 0 = 0 ∨ nI 0 = 1) ∧ X (nI 0)) ∧ (¬ nI sz < n → (nI sz - n < i → (nI 0 = 0 ∨ nI 0 = 1) ∧ X (nI 0)) ∧ (¬ nI sz - n < i → (nI 1 = 0 ∨ nI 1 = 1) ∧ X (nI 1))))) := by
  have no : dHld sz i n ≠ true → (nI 0 = 0 ∨ nI 0 = 1) ∧ X (nI 0) := fun h => ⟨Or.inl rfl, hX _ (mb_f h).symm⟩
  refine ⟨fun h1 => no (fun w => absurd h1 (Int32.not_lt.mpr (of_decide_eq_true w).1)), fun h1 => ⟨fun h2 => no (fun w => absurd h2 (Int32.not_lt.mpr (of_decide_eq_true w).2.1)), fun h2 => ⟨fun h3 => no (fun w => absurd h3 (Int32.not_lt.mpr (of_decide_eq_true w).2.2.1)), fun h3 => ⟨fun h4 => no (fun w => absurd h4 (Int32.not_lt.mpr (of_decide_eq_true w).2.2.2)), fun h4 => ⟨Or.inr rfl, hX _ (mb_t (decide_eq_true ⟨Int32.not_lt.mp h1, Int32.not_lt.mp h2, Int32.not_lt.mp h3, Int32.not_lt.mp h4⟩)).symm⟩⟩⟩⟩⟩
abbrev t_X7_copy : mG → mT := pub 5 F_copy
theorem mo_X7_copy : mMn t_X7_copy := pub_mono
theorem rv_X7_copy : mHasR yX7_copy 5 t_X7_copy := pub_recv rfl
def k_X7_copy : List (Nat × mI) := [(0, .aload_n 0, 1, 0, 0, []),
  (1, .iload_n 1, 1, 1, 0, []),
  (2, .invokevirtual 246, 3, 0, 0, []),
  (5, .astore 6, 2, 6, 0, []),
  (7, .aload_n 0, 1, 0, 0, []),
  (8, .iload_n 3, 1, 3, 0, []),
  (9, .invokevirtual 246, 3, 0, 0, []),
  (12, .astore 7, 2, 7, 0, []),
  (14, .aload 6, 2, 6, 0, []),
  (16, .ifnull 8, 3, 24, 0, []),
  (19, .aload 7, 2, 7, 0, []),
  (21, .ifnonnull 6, 3, 27, 0, []),
  (24, .bipush (-2), 2, 0, -2, []),
  (26, .ireturn, 1, 0, 0, []),
  (27, .aload 6, 2, 6, 0, []),
  (29, .invokevirtual 250, 3, 0, 0, []),
  (32, .ifCond .ne 11, 3, 43, 0, []),
  (35, .aload 7, 2, 7, 0, []),
  (37, .invokevirtual 250, 3, 0, 0, []),
  (40, .ifCond .eq 6, 3, 46, 0, []),
  (43, .bipush (-11), 2, 0, -11, []),
  (45, .ireturn, 1, 0, 0, []),
  (46, .aload 6, 2, 6, 0, []),
  (48, .getfield 281, 3, 0, 0, []),
  (51, .aload 7, 2, 7, 0, []),
  (53, .getfield 281, 3, 0, 0, []),
  (56, .if_icmp .eq 6, 3, 62, 0, []),
  (59, .bipush (-13), 2, 0, -13, []),
  (61, .ireturn, 1, 0, 0, []),
  (62, .aload 6, 2, 6, 0, []),
  (64, .iload_n 2, 1, 2, 0, []),
  (65, .iload 5, 2, 5, 0, []),
  (67, .invokevirtual 284, 3, 0, 0, []),
  (70, .ifCond .eq 15, 3, 85, 0, []),
  (73, .aload 7, 2, 7, 0, []),
  (75, .iload 4, 2, 4, 0, []),
  (77, .iload 5, 2, 5, 0, []),
  (79, .invokevirtual 284, 3, 0, 0, []),
  (82, .ifCond .ne 6, 3, 88, 0, []),
  (85, .bipush (-12), 2, 0, -12, []),
  (87, .ireturn, 1, 0, 0, []),
  (88, .aload 6, 2, 6, 0, []),
  (90, .getfield 268, 3, 0, 0, []),
  (93, .iload_n 2, 1, 2, 0, []),
  (94, .aload 7, 2, 7, 0, []),
  (96, .getfield 268, 3, 0, 0, []),
  (99, .iload 4, 2, 4, 0, []),
  (101, .iload 5, 2, 5, 0, []),
  (103, .invokestatic 288, 3, 0, 0, []),
  (106, .iload 5, 2, 5, 0, []),
  (108, .ireturn, 1, 0, 0, [])]
theorem kk_X7_copy : (k_X7_copy.all fun e => mChk cX7_copy e.1 e.2) = true := by decide +kernel
def l_X7_copy : List (Nat × Nat × (mG → mT)) := [(3 * 246, 1 + 1, t_X7_sheetAt), (3 * 250, 0 + 1, t_X4_isMissing), (3 * 284, 2 + 1, t_X4_holds), (3 * 288 + 1, 5, tCopy)]
def f_X7_copy (g : mG) : mF := (mLk k_X7_copy, mLk fl_RX7, mLk (l_X7_copy.map fun e => (e.1, e.2.1, e.2.2 g)), mLk ([] : List (Nat × mV)), mLk ([] : List (Nat × mV)), some .int)
theorem m_X7_copy (g : mG) : mMono (f_X7_copy g) := mMonoL (g := g) (l := l_X7_copy) (List.forall_mem_cons.mpr ⟨mo_X7_sheetAt, List.forall_mem_cons.mpr ⟨mo_X4_isMissing, List.forall_mem_cons.mpr ⟨mo_X4_holds, List.forall_mem_cons.mpr ⟨tCopy_mono, fun _ h => absurd h List.not_mem_nil⟩⟩⟩⟩) rfl

theorem v_copy_0 (g : mG) (M : mM) (P : mP) (s i q j n : Int32)
    (h : mRun (mSx g) (f_X7_copy g) P (5, [some (.inr (some 0)), some (.inl s), some (.inl i), some (.inl q), some (.inl j), some (.inl n), none, none], [.inr (shR s)], M)) :
    mRun (mSx g) (f_X7_copy g) P (0, [some (.inr (some 0)), some (.inl s), some (.inl i), some (.inl q), some (.inl j), some (.inl n), none, none], [], M) := mRun.vc (m_X7_copy g) [5] 4 h

theorem v_copyA_40 (g : mG) (M : mM) (P : mP) (s i q j n : Int32)
    (h : mRun (mSx g) (f_X7_copy g) P (12, [some (.inr (some 0)), some (.inl s), some (.inl i), some (.inl q), some (.inl j), some (.inl n), some (.inr (some 40)), none], [.inr (shR q)], M)) :
    mRun (mSx g) (f_X7_copy g) P (5, [some (.inr (some 0)), some (.inl s), some (.inl i), some (.inl q), some (.inl j), some (.inl n), none, none], [.inr (some 40)], M) := mRun.vc (m_X7_copy g) [12] 5 h

theorem v_copyA_42 (g : mG) (M : mM) (P : mP) (s i q j n : Int32)
    (h : mRun (mSx g) (f_X7_copy g) P (12, [some (.inr (some 0)), some (.inl s), some (.inl i), some (.inl q), some (.inl j), some (.inl n), some (.inr (some 42)), none], [.inr (shR q)], M)) :
    mRun (mSx g) (f_X7_copy g) P (5, [some (.inr (some 0)), some (.inl s), some (.inl i), some (.inl q), some (.inl j), some (.inl n), none, none], [.inr (some 42)], M) := mRun.vc (m_X7_copy g) [12] 5 h

theorem v_copyA_44 (g : mG) (M : mM) (P : mP) (s i q j n : Int32)
    (h : mRun (mSx g) (f_X7_copy g) P (12, [some (.inr (some 0)), some (.inl s), some (.inl i), some (.inl q), some (.inl j), some (.inl n), some (.inr (some 44)), none], [.inr (shR q)], M)) :
    mRun (mSx g) (f_X7_copy g) P (5, [some (.inr (some 0)), some (.inl s), some (.inl i), some (.inl q), some (.inl j), some (.inl n), none, none], [.inr (some 44)], M) := mRun.vc (m_X7_copy g) [12] 5 h

theorem v_copyA_46 (g : mG) (M : mM) (P : mP) (s i q j n : Int32)
    (h : mRun (mSx g) (f_X7_copy g) P (12, [some (.inr (some 0)), some (.inl s), some (.inl i), some (.inl q), some (.inl j), some (.inl n), some (.inr (some 46)), none], [.inr (shR q)], M)) :
    mRun (mSx g) (f_X7_copy g) P (5, [some (.inr (some 0)), some (.inl s), some (.inl i), some (.inl q), some (.inl j), some (.inl n), none, none], [.inr (some 46)], M) := mRun.vc (m_X7_copy g) [12] 5 h

theorem v_copyA_N (g : mG) (M : mM) (P : mP) (s i q j n : Int32)
    (h : mRun (mSx g) (f_X7_copy g) P (12, [some (.inr (some 0)), some (.inl s), some (.inl i), some (.inl q), some (.inl j), some (.inl n), some (.inr none), none], [.inr (shR q)], M)) :
    mRun (mSx g) (f_X7_copy g) P (5, [some (.inr (some 0)), some (.inl s), some (.inl i), some (.inl q), some (.inl j), some (.inl n), none, none], [.inr none], M) := mRun.vc (m_X7_copy g) [12] 5 h

theorem v_copyN_40 (g : mG) (M : mM) (P : mP) (s i q j n : Int32)
    (h : P (some (.inl (-2))) M) :
    mRun (mSx g) (f_X7_copy g) P (12, [some (.inr (some 0)), some (.inl s), some (.inl i), some (.inl q), some (.inl j), some (.inl n), some (.inr none), none], [.inr (some 40)], M) := mRun.vc (m_X7_copy g) [] 5 h

theorem v_copyN_42 (g : mG) (M : mM) (P : mP) (s i q j n : Int32)
    (h : P (some (.inl (-2))) M) :
    mRun (mSx g) (f_X7_copy g) P (12, [some (.inr (some 0)), some (.inl s), some (.inl i), some (.inl q), some (.inl j), some (.inl n), some (.inr none), none], [.inr (some 42)], M) := mRun.vc (m_X7_copy g) [] 5 h

theorem v_copyN_44 (g : mG) (M : mM) (P : mP) (s i q j n : Int32)
    (h : P (some (.inl (-2))) M) :
    mRun (mSx g) (f_X7_copy g) P (12, [some (.inr (some 0)), some (.inl s), some (.inl i), some (.inl q), some (.inl j), some (.inl n), some (.inr none), none], [.inr (some 44)], M) := mRun.vc (m_X7_copy g) [] 5 h

theorem v_copyN_46 (g : mG) (M : mM) (P : mP) (s i q j n : Int32)
    (h : P (some (.inl (-2))) M) :
    mRun (mSx g) (f_X7_copy g) P (12, [some (.inr (some 0)), some (.inl s), some (.inl i), some (.inl q), some (.inl j), some (.inl n), some (.inr none), none], [.inr (some 46)], M) := mRun.vc (m_X7_copy g) [] 5 h

theorem v_copyN_N (g : mG) (M : mM) (P : mP) (s i q j n : Int32)
    (h : P (some (.inl (-2))) M) :
    mRun (mSx g) (f_X7_copy g) P (12, [some (.inr (some 0)), some (.inl s), some (.inl i), some (.inl q), some (.inl j), some (.inl n), some (.inr none), none], [.inr none], M) := mRun.vc (m_X7_copy g) [] 5 h

theorem v_copyM_40 (g : mG) (M : mM) (P : mP) (s i q j n : Int32)
    (h : P (some (.inl (-2))) M) :
    mRun (mSx g) (f_X7_copy g) P (12, [some (.inr (some 0)), some (.inl s), some (.inl i), some (.inl q), some (.inl j), some (.inl n), some (.inr (some 40)), none], [.inr none], M) := mRun.vc (m_X7_copy g) [] 7 h

theorem v_copyM_42 (g : mG) (M : mM) (P : mP) (s i q j n : Int32)
    (h : P (some (.inl (-2))) M) :
    mRun (mSx g) (f_X7_copy g) P (12, [some (.inr (some 0)), some (.inl s), some (.inl i), some (.inl q), some (.inl j), some (.inl n), some (.inr (some 42)), none], [.inr none], M) := mRun.vc (m_X7_copy g) [] 7 h

theorem v_copyM_44 (g : mG) (M : mM) (P : mP) (s i q j n : Int32)
    (h : P (some (.inl (-2))) M) :
    mRun (mSx g) (f_X7_copy g) P (12, [some (.inr (some 0)), some (.inl s), some (.inl i), some (.inl q), some (.inl j), some (.inl n), some (.inr (some 44)), none], [.inr none], M) := mRun.vc (m_X7_copy g) [] 7 h

theorem v_copyM_46 (g : mG) (M : mM) (P : mP) (s i q j n : Int32)
    (h : P (some (.inl (-2))) M) :
    mRun (mSx g) (f_X7_copy g) P (12, [some (.inr (some 0)), some (.inl s), some (.inl i), some (.inl q), some (.inl j), some (.inl n), some (.inr (some 46)), none], [.inr none], M) := mRun.vc (m_X7_copy g) [] 7 h

theorem v_copyB_40_40 (g : mG) (M : mM) (P : mP) (s i q j n : Int32)
    (h : (¬ (M 40 1) = (-1) → ((nI 0) = 0 ∨ (nI 0) = 1) ∧ (mRun (mSx g) (f_X7_copy g) P (32, [some (.inr (some 0)), some (.inl s), some (.inl i), some (.inl q), some (.inl j), some (.inl n), some (.inr (some 40)), some (.inr (some 40))], [.inl (nI 0)], M))) ∧ (¬ (¬ (M 40 1) = (-1)) → ((nI 1) = 0 ∨ (nI 1) = 1) ∧ (mRun (mSx g) (f_X7_copy g) P (32, [some (.inr (some 0)), some (.inl s), some (.inl i), some (.inl q), some (.inl j), some (.inl n), some (.inr (some 40)), some (.inr (some 40))], [.inl (nI 1)], M)))) :
    mRun (mSx g) (f_X7_copy g) P (12, [some (.inr (some 0)), some (.inl s), some (.inl i), some (.inl q), some (.inl j), some (.inl n), some (.inr (some 40)), none], [.inr (some 40)], M) := mRun.vc (m_X7_copy g) [32] 8 h

theorem v_copyC_40_40 (g : mG) (M : mM) (P : mP) (s i q j n : Int32) (b : Int32)
    (h : (¬ b = 0 → P (some (.inl (-11))) M) ∧ (¬ (¬ b = 0) → (¬ (M 40 1) = (-1) → ((nI 0) = 0 ∨ (nI 0) = 1) ∧ (mRun (mSx g) (f_X7_copy g) P (40, [some (.inr (some 0)), some (.inl s), some (.inl i), some (.inl q), some (.inl j), some (.inl n), some (.inr (some 40)), some (.inr (some 40))], [.inl (nI 0)], M))) ∧ (¬ (¬ (M 40 1) = (-1)) → ((nI 1) = 0 ∨ (nI 1) = 1) ∧ (mRun (mSx g) (f_X7_copy g) P (40, [some (.inr (some 0)), some (.inl s), some (.inl i), some (.inl q), some (.inl j), some (.inl n), some (.inr (some 40)), some (.inr (some 40))], [.inl (nI 1)], M))))) :
    mRun (mSx g) (f_X7_copy g) P (32, [some (.inr (some 0)), some (.inl s), some (.inl i), some (.inl q), some (.inl j), some (.inl n), some (.inr (some 40)), some (.inr (some 40))], [.inl b], M) := mRun.vc (m_X7_copy g) [40] 4 h

theorem v_copyD_40_40 (g : mG) (M : mM) (P : mP) (s i q j n : Int32) (b : Int32)
    (h : (b = 0 → ((M 40 1) = (M 40 1) → (i < 0 → ((nI 0) = 0 ∨ (nI 0) = 1) ∧ (mRun (mSx g) (f_X7_copy g) P (70, [some (.inr (some 0)), some (.inl s), some (.inl i), some (.inl q), some (.inl j), some (.inl n), some (.inr (some 40)), some (.inr (some 40))], [.inl (nI 0)], M))) ∧ (¬ (i < 0) → (n < 0 → ((nI 0) = 0 ∨ (nI 0) = 1) ∧ (mRun (mSx g) (f_X7_copy g) P (70, [some (.inr (some 0)), some (.inl s), some (.inl i), some (.inl q), some (.inl j), some (.inl n), some (.inr (some 40)), some (.inr (some 40))], [.inl (nI 0)], M))) ∧ (¬ (n < 0) → ((M 40 2) < n → ((nI 0) = 0 ∨ (nI 0) = 1) ∧ (mRun (mSx g) (f_X7_copy g) P (70, [some (.inr (some 0)), some (.inl s), some (.inl i), some (.inl q), some (.inl j), some (.inl n), some (.inr (some 40)), some (.inr (some 40))], [.inl (nI 0)], M))) ∧ (¬ ((M 40 2) < n) → (((M 40 2) - n) < i → ((nI 0) = 0 ∨ (nI 0) = 1) ∧ (mRun (mSx g) (f_X7_copy g) P (70, [some (.inr (some 0)), some (.inl s), some (.inl i), some (.inl q), some (.inl j), some (.inl n), some (.inr (some 40)), some (.inr (some 40))], [.inl (nI 0)], M))) ∧ (¬ (((M 40 2) - n) < i) → ((nI 1) = 0 ∨ (nI 1) = 1) ∧ (mRun (mSx g) (f_X7_copy g) P (70, [some (.inr (some 0)), some (.inl s), some (.inl i), some (.inl q), some (.inl j), some (.inl n), some (.inr (some 40)), some (.inr (some 40))], [.inl (nI 1)], M))))))) ∧ (¬ ((M 40 1) = (M 40 1)) → P (some (.inl (-13))) M)) ∧ (¬ (b = 0) → P (some (.inl (-11))) M)) :
    mRun (mSx g) (f_X7_copy g) P (40, [some (.inr (some 0)), some (.inl s), some (.inl i), some (.inl q), some (.inl j), some (.inl n), some (.inr (some 40)), some (.inr (some 40))], [.inl b], M) := mRun.vc (m_X7_copy g) [70] 11 h

theorem v_copyE_40_40 (g : mG) (M : mM) (P : mP) (s i q j n : Int32) (b : Int32)
    (h : (b = 0 → P (some (.inl (-12))) M) ∧ (¬ (b = 0) → (j < 0 → ((nI 0) = 0 ∨ (nI 0) = 1) ∧ (mRun (mSx g) (f_X7_copy g) P (82, [some (.inr (some 0)), some (.inl s), some (.inl i), some (.inl q), some (.inl j), some (.inl n), some (.inr (some 40)), some (.inr (some 40))], [.inl (nI 0)], M))) ∧ (¬ (j < 0) → (n < 0 → ((nI 0) = 0 ∨ (nI 0) = 1) ∧ (mRun (mSx g) (f_X7_copy g) P (82, [some (.inr (some 0)), some (.inl s), some (.inl i), some (.inl q), some (.inl j), some (.inl n), some (.inr (some 40)), some (.inr (some 40))], [.inl (nI 0)], M))) ∧ (¬ (n < 0) → ((M 40 2) < n → ((nI 0) = 0 ∨ (nI 0) = 1) ∧ (mRun (mSx g) (f_X7_copy g) P (82, [some (.inr (some 0)), some (.inl s), some (.inl i), some (.inl q), some (.inl j), some (.inl n), some (.inr (some 40)), some (.inr (some 40))], [.inl (nI 0)], M))) ∧ (¬ ((M 40 2) < n) → (((M 40 2) - n) < j → ((nI 0) = 0 ∨ (nI 0) = 1) ∧ (mRun (mSx g) (f_X7_copy g) P (82, [some (.inr (some 0)), some (.inl s), some (.inl i), some (.inl q), some (.inl j), some (.inl n), some (.inr (some 40)), some (.inr (some 40))], [.inl (nI 0)], M))) ∧ (¬ (((M 40 2) - n) < j) → ((nI 1) = 0 ∨ (nI 1) = 1) ∧ (mRun (mSx g) (f_X7_copy g) P (82, [some (.inr (some 0)), some (.inl s), some (.inl i), some (.inl q), some (.inl j), some (.inl n), some (.inr (some 40)), some (.inr (some 40))], [.inl (nI 1)], M)))))))) :
    mRun (mSx g) (f_X7_copy g) P (70, [some (.inr (some 0)), some (.inl s), some (.inl i), some (.inl q), some (.inl j), some (.inl n), some (.inr (some 40)), some (.inr (some 40))], [.inl b], M) := mRun.vc (m_X7_copy g) [82] 6 h

theorem v_copyF_40_40 (g : mG) (M : mM) (P : mP) (s i q j n : Int32) (b : Int32)
    (h : (¬ b = 0 → ∃ n2 n3 : Nat, (∃ ra, (mSx g)[41]? = some (0, n2, ra)) ∧ (∃ rb, (mSx g)[41]? = some (0, n3, rb)) ∧ ¬ i < 0 ∧ ¬ j < 0 ∧ ¬ n < 0 ∧ i.toNatClampNeg + n.toNatClampNeg ≤ n2 ∧ j.toNatClampNeg + n.toNatClampNeg ≤ n3 ∧ (let M6 : mM := mUp M 41 (va_cpy (M 41) (M 41) i.toNatClampNeg j.toNatClampNeg n.toNatClampNeg); P (some (.inl n)) M6)) ∧ (¬ (¬ b = 0) → P (some (.inl (-12))) M)) :
    mRun (mSx g) (f_X7_copy g) P (82, [some (.inr (some 0)), some (.inl s), some (.inl i), some (.inl q), some (.inl j), some (.inl n), some (.inr (some 40)), some (.inr (some 40))], [.inl b], M) := mRun.vc (m_X7_copy g) [] 11 h

theorem copy_run_40_40 (g : mG) (M : mM) (P : mP) (z : aZ) (i j n : Int32) (hR : RpC M z) (hI : zInv z) (hP : pubP M P (F_copy z [nI 0, i, nI 0, j, n])) :
    mRun (mSx g) (f_X7_copy g) P (12, [some (.inr (some 0)), some (.inl (nI 0)), some (.inl i), some (.inl (nI 0)), some (.inl j), some (.inl n), some (.inr (some 40)), none], [.inr (some 40)], M) := by
  have hc : F_copy z [nI 0, i, nI 0, j, n] = if (z.2.2.2 0).1 = -1 ∨ (z.2.2.2 0).1 = -1 then (-11, z) else if ¬ (z.2.2.2 0).1 = (z.2.2.2 0).1 then (-13, z) else if dHld (z.2.2.2 0).2.1 i n = true ∧ dHld (z.2.2.2 0).2.1 j n = true then (n, zS z 0 ((z.2.2.2 0).1, (z.2.2.2 0).2.1, va_cpy (z.2.2.2 0).2.2 (z.2.2.2 0).2.2 (ub i) (ub j) (ub n))) else (-12, z) := rfl
  rw [hc] at hP
  have hz1 := (hI.2.2.2 0 (by decide)).2.1
  have hz2 := (hI.2.2.2 0 (by decide)).2.1
  have hS1 := hR.2.2.2.2.1 0 (by decide)
  have hS2 := hR.2.2.2.2.1 0 (by decide)
  have a1 : M 40 1 = (z.2.2.2 0).1 := hS1.1
  have a2 : M 40 2 = nI (z.2.2.2 0).2.1 := hS1.2.1
  have b1 : M 40 1 = (z.2.2.2 0).1 := hS2.1
  have b2 : M 40 2 = nI (z.2.2.2 0).2.1 := hS2.2.1
  have stay : ∀ v w : Int32, v = w → pubP M P (w, z) → P (some (.inl v)) M := fun v w e h => h v M e hR FrC.refl
  have kF : ¬ ((z.2.2.2 0).1 = -1 ∨ (z.2.2.2 0).1 = -1) → (z.2.2.2 0).1 = (z.2.2.2 0).1 → dHld (z.2.2.2 0).2.1 i n = true → ∀ b, b = mb (dHld (z.2.2.2 0).2.1 j n = true) → mRun (mSx g) (f_X7_copy g) P (82, [some (.inr (some 0)), some (.inl (nI 0)), some (.inl i), some (.inl (nI 0)), some (.inl j), some (.inl n), some (.inr (some 40)), some (.inr (some 40))], [.inl b], M) := fun w1 w2 w3 b hb => by
    rw [if_neg w1, if_neg (fun y => y w2)] at hP
    refine v_copyF_40_40 g M P _ _ _ _ _ _ ?_
    rw [hb]
    by_cases h : dHld (z.2.2.2 0).2.1 j n = true
    · rw [if_pos ⟨w3, h⟩] at hP
      rw [mb_t h]
      refine ⟨fun _ => ?_, fun y => absurd (by decide) y⟩
      obtain ⟨a, m, rfl, rfl, ham⟩ := dHld_t hz1 w3
      obtain ⟨b, m', rfl, hm', hbm⟩ := dHld_t hz2 h
      have hlen : m ≤ 40 ∧ m' ≤ 40 := ⟨by omega, by omega⟩
      obtain rfl : m = m' := by
        have := congrArg Int32.toInt hm'
        rw [nI_toInt (by omega), nI_toInt (by omega)] at this
        omega
      rw [ub_nI (by omega), ub_nI (by omega), ub_nI (by omega)] at hP
      have ca : (nI a).toNatClampNeg = a := nI_clamp (by omega)
      have cb : (nI b).toNatClampNeg = b := nI_clamp (by omega)
      have cm : (nI m).toNatClampNeg = m := nI_clamp (by omega)
      refine ⟨40, 40, ⟨_, mSx_at rfl⟩, ⟨_, mSx_at rfl⟩, nI_pos (by omega), nI_pos (by omega), nI_pos (by omega), by rw [ca, cm]; omega, by rw [cb, cm]; omega, ?_⟩
      rw [ca, cb, cm]
      intro M2
      refine hP _ M2 rfl (RpC_sheet hR (by decide) ⟨?_, ?_, fun y hy => ?_⟩ (fun d h1 h2 => mUp_ne h2)) (fun d h1 => mUp_ne (by omega))
      · show mUp M 41 _ 40 1 = _
        rw [mUp_ne (by decide)]
        exact b1
      · show mUp M 41 _ 40 2 = _
        rw [mUp_ne (by decide)]
        exact b2
      · show mUp M 41 _ 41 y = shC (z.2.2.2 0).1 (va_cpy (z.2.2.2 0).2.2 (z.2.2.2 0).2.2 a b m y)
        rw [mUp_at]
        by_cases hy2 : b ≤ y ∧ y < b + m
        · rw [pk_cpy_in hy2.1 hy2.2, pk_cpy_in hy2.1 hy2.2, ← w2]
          exact hS1.2.2 _ (by omega)
        · rw [pk_cpy_out (by omega), pk_cpy_out (by omega)]
          exact hS2.2.2 y hy
    · rw [if_neg (fun y => h y.2)] at hP
      rw [mb_f h]
      exact ⟨fun y => absurd rfl y, fun _ => stay _ _ rfl hP⟩
  have kE : ¬ ((z.2.2.2 0).1 = -1 ∨ (z.2.2.2 0).1 = -1) → (z.2.2.2 0).1 = (z.2.2.2 0).1 → ∀ b, b = mb (dHld (z.2.2.2 0).2.1 i n = true) → mRun (mSx g) (f_X7_copy g) P (70, [some (.inr (some 0)), some (.inl (nI 0)), some (.inl i), some (.inl (nI 0)), some (.inl j), some (.inl n), some (.inr (some 40)), some (.inr (some 40))], [.inl b], M) := fun w1 w2 b hb => by
    refine v_copyE_40_40 g M P _ _ _ _ _ _ ?_
    rw [hb, b2]
    by_cases h : dHld (z.2.2.2 0).2.1 i n = true
    · rw [mb_t h]
      exact ⟨fun y => absurd y (by decide), fun _ => hold_cs b (A := True) (fun v => mRun (mSx g) (f_X7_copy g) P (82, [some (.inr (some 0)), some (.inl (nI 0)), some (.inl i), some (.inl (nI 0)), some (.inl j), some (.inl n), some (.inr (some 40)), some (.inr (some 40))], [.inl v], M)) (kF w1 w2 h) hz2⟩
    · rw [if_neg w1, if_neg (fun y => y w2), if_neg (fun y => h y.1)] at hP
      rw [mb_f h]
      exact ⟨fun _ => stay _ _ rfl hP, fun y => absurd rfl y⟩
  have kD : ¬ (z.2.2.2 0).1 = -1 → ∀ b, b = mb ((z.2.2.2 0).1 = -1) → mRun (mSx g) (f_X7_copy g) P (40, [some (.inr (some 0)), some (.inl (nI 0)), some (.inl i), some (.inl (nI 0)), some (.inl j), some (.inl n), some (.inr (some 40)), some (.inr (some 40))], [.inl b], M) := fun w1 b hb => by
    refine v_copyD_40_40 g M P _ _ _ _ _ _ ?_
    rw [hb, a1]
    try rw [b1]
    rw [a2]
    by_cases h : (z.2.2.2 0).1 = -1
    · rw [if_pos (Or.inr h)] at hP
      rw [mb_t h]
      exact ⟨fun y => absurd y (by decide), fun _ => stay _ _ rfl hP⟩
    · have w : ¬ ((z.2.2.2 0).1 = -1 ∨ (z.2.2.2 0).1 = -1) := fun y => y.elim w1 h
      rw [mb_f h]
      refine ⟨fun _ => ⟨fun w2 => hold_cs b (A := True) (fun v => mRun (mSx g) (f_X7_copy g) P (70, [some (.inr (some 0)), some (.inl (nI 0)), some (.inl i), some (.inl (nI 0)), some (.inl j), some (.inl n), some (.inr (some 40)), some (.inr (some 40))], [.inl v], M)) (kE w w2) hz1, fun w2 => ?_⟩, fun y => absurd rfl y⟩
      rw [if_neg w, if_pos w2] at hP
      exact stay _ _ rfl hP
  have kC : ∀ b, b = mb ((z.2.2.2 0).1 = -1) → mRun (mSx g) (f_X7_copy g) P (32, [some (.inr (some 0)), some (.inl (nI 0)), some (.inl i), some (.inl (nI 0)), some (.inl j), some (.inl n), some (.inr (some 40)), some (.inr (some 40))], [.inl b], M) := fun b hb => by
    refine v_copyC_40_40 g M P _ _ _ _ _ _ ?_
    rw [hb, b1]
    by_cases h : (z.2.2.2 0).1 = -1
    · rw [if_pos (Or.inl h)] at hP
      rw [mb_t h]
      exact ⟨fun _ => stay _ _ rfl hP, fun y => absurd (by decide) y⟩
    · rw [mb_f h]
      exact ⟨fun y => absurd rfl y, fun _ => ⟨fun w => ⟨Or.inl rfl, kD h _ (mb_f w).symm⟩, fun w => ⟨Or.inr rfl, kD h _ (mb_t (Classical.not_not.mp w)).symm⟩⟩⟩
  refine v_copyB_40_40 g M P _ _ _ _ _ ?_
  rw [a1]
  exact ⟨fun w => ⟨Or.inl rfl, kC _ (mb_f w).symm⟩, fun w => ⟨Or.inr rfl, kC _ (mb_t (Classical.not_not.mp w)).symm⟩⟩
theorem v_copyB_40_42 (g : mG) (M : mM) (P : mP) (s i q j n : Int32)
    (h : (¬ (M 40 1) = (-1) → ((nI 0) = 0 ∨ (nI 0) = 1) ∧ (mRun (mSx g) (f_X7_copy g) P (32, [some (.inr (some 0)), some (.inl s), some (.inl i), some (.inl q), some (.inl j), some (.inl n), some (.inr (some 40)), some (.inr (some 42))], [.inl (nI 0)], M))) ∧ (¬ (¬ (M 40 1) = (-1)) → ((nI 1) = 0 ∨ (nI 1) = 1) ∧ (mRun (mSx g) (f_X7_copy g) P (32, [some (.inr (some 0)), some (.inl s), some (.inl i), some (.inl q), some (.inl j), some (.inl n), some (.inr (some 40)), some (.inr (some 42))], [.inl (nI 1)], M)))) :
    mRun (mSx g) (f_X7_copy g) P (12, [some (.inr (some 0)), some (.inl s), some (.inl i), some (.inl q), some (.inl j), some (.inl n), some (.inr (some 40)), none], [.inr (some 42)], M) := mRun.vc (m_X7_copy g) [32] 8 h

theorem v_copyC_40_42 (g : mG) (M : mM) (P : mP) (s i q j n : Int32) (b : Int32)
    (h : (¬ b = 0 → P (some (.inl (-11))) M) ∧ (¬ (¬ b = 0) → (¬ (M 42 1) = (-1) → ((nI 0) = 0 ∨ (nI 0) = 1) ∧ (mRun (mSx g) (f_X7_copy g) P (40, [some (.inr (some 0)), some (.inl s), some (.inl i), some (.inl q), some (.inl j), some (.inl n), some (.inr (some 40)), some (.inr (some 42))], [.inl (nI 0)], M))) ∧ (¬ (¬ (M 42 1) = (-1)) → ((nI 1) = 0 ∨ (nI 1) = 1) ∧ (mRun (mSx g) (f_X7_copy g) P (40, [some (.inr (some 0)), some (.inl s), some (.inl i), some (.inl q), some (.inl j), some (.inl n), some (.inr (some 40)), some (.inr (some 42))], [.inl (nI 1)], M))))) :
    mRun (mSx g) (f_X7_copy g) P (32, [some (.inr (some 0)), some (.inl s), some (.inl i), some (.inl q), some (.inl j), some (.inl n), some (.inr (some 40)), some (.inr (some 42))], [.inl b], M) := mRun.vc (m_X7_copy g) [40] 4 h

theorem v_copyD_40_42 (g : mG) (M : mM) (P : mP) (s i q j n : Int32) (b : Int32)
    (h : (b = 0 → ((M 40 1) = (M 42 1) → (i < 0 → ((nI 0) = 0 ∨ (nI 0) = 1) ∧ (mRun (mSx g) (f_X7_copy g) P (70, [some (.inr (some 0)), some (.inl s), some (.inl i), some (.inl q), some (.inl j), some (.inl n), some (.inr (some 40)), some (.inr (some 42))], [.inl (nI 0)], M))) ∧ (¬ (i < 0) → (n < 0 → ((nI 0) = 0 ∨ (nI 0) = 1) ∧ (mRun (mSx g) (f_X7_copy g) P (70, [some (.inr (some 0)), some (.inl s), some (.inl i), some (.inl q), some (.inl j), some (.inl n), some (.inr (some 40)), some (.inr (some 42))], [.inl (nI 0)], M))) ∧ (¬ (n < 0) → ((M 40 2) < n → ((nI 0) = 0 ∨ (nI 0) = 1) ∧ (mRun (mSx g) (f_X7_copy g) P (70, [some (.inr (some 0)), some (.inl s), some (.inl i), some (.inl q), some (.inl j), some (.inl n), some (.inr (some 40)), some (.inr (some 42))], [.inl (nI 0)], M))) ∧ (¬ ((M 40 2) < n) → (((M 40 2) - n) < i → ((nI 0) = 0 ∨ (nI 0) = 1) ∧ (mRun (mSx g) (f_X7_copy g) P (70, [some (.inr (some 0)), some (.inl s), some (.inl i), some (.inl q), some (.inl j), some (.inl n), some (.inr (some 40)), some (.inr (some 42))], [.inl (nI 0)], M))) ∧ (¬ (((M 40 2) - n) < i) → ((nI 1) = 0 ∨ (nI 1) = 1) ∧ (mRun (mSx g) (f_X7_copy g) P (70, [some (.inr (some 0)), some (.inl s), some (.inl i), some (.inl q), some (.inl j), some (.inl n), some (.inr (some 40)), some (.inr (some 42))], [.inl (nI 1)], M))))))) ∧ (¬ ((M 40 1) = (M 42 1)) → P (some (.inl (-13))) M)) ∧ (¬ (b = 0) → P (some (.inl (-11))) M)) :
    mRun (mSx g) (f_X7_copy g) P (40, [some (.inr (some 0)), some (.inl s), some (.inl i), some (.inl q), some (.inl j), some (.inl n), some (.inr (some 40)), some (.inr (some 42))], [.inl b], M) := mRun.vc (m_X7_copy g) [70] 11 h

theorem v_copyE_40_42 (g : mG) (M : mM) (P : mP) (s i q j n : Int32) (b : Int32)
    (h : (b = 0 → P (some (.inl (-12))) M) ∧ (¬ (b = 0) → (j < 0 → ((nI 0) = 0 ∨ (nI 0) = 1) ∧ (mRun (mSx g) (f_X7_copy g) P (82, [some (.inr (some 0)), some (.inl s), some (.inl i), some (.inl q), some (.inl j), some (.inl n), some (.inr (some 40)), some (.inr (some 42))], [.inl (nI 0)], M))) ∧ (¬ (j < 0) → (n < 0 → ((nI 0) = 0 ∨ (nI 0) = 1) ∧ (mRun (mSx g) (f_X7_copy g) P (82, [some (.inr (some 0)), some (.inl s), some (.inl i), some (.inl q), some (.inl j), some (.inl n), some (.inr (some 40)), some (.inr (some 42))], [.inl (nI 0)], M))) ∧ (¬ (n < 0) → ((M 42 2) < n → ((nI 0) = 0 ∨ (nI 0) = 1) ∧ (mRun (mSx g) (f_X7_copy g) P (82, [some (.inr (some 0)), some (.inl s), some (.inl i), some (.inl q), some (.inl j), some (.inl n), some (.inr (some 40)), some (.inr (some 42))], [.inl (nI 0)], M))) ∧ (¬ ((M 42 2) < n) → (((M 42 2) - n) < j → ((nI 0) = 0 ∨ (nI 0) = 1) ∧ (mRun (mSx g) (f_X7_copy g) P (82, [some (.inr (some 0)), some (.inl s), some (.inl i), some (.inl q), some (.inl j), some (.inl n), some (.inr (some 40)), some (.inr (some 42))], [.inl (nI 0)], M))) ∧ (¬ (((M 42 2) - n) < j) → ((nI 1) = 0 ∨ (nI 1) = 1) ∧ (mRun (mSx g) (f_X7_copy g) P (82, [some (.inr (some 0)), some (.inl s), some (.inl i), some (.inl q), some (.inl j), some (.inl n), some (.inr (some 40)), some (.inr (some 42))], [.inl (nI 1)], M)))))))) :
    mRun (mSx g) (f_X7_copy g) P (70, [some (.inr (some 0)), some (.inl s), some (.inl i), some (.inl q), some (.inl j), some (.inl n), some (.inr (some 40)), some (.inr (some 42))], [.inl b], M) := mRun.vc (m_X7_copy g) [82] 6 h

theorem v_copyF_40_42 (g : mG) (M : mM) (P : mP) (s i q j n : Int32) (b : Int32)
    (h : (¬ b = 0 → ∃ n2 n3 : Nat, (∃ ra, (mSx g)[41]? = some (0, n2, ra)) ∧ (∃ rb, (mSx g)[43]? = some (0, n3, rb)) ∧ ¬ i < 0 ∧ ¬ j < 0 ∧ ¬ n < 0 ∧ i.toNatClampNeg + n.toNatClampNeg ≤ n2 ∧ j.toNatClampNeg + n.toNatClampNeg ≤ n3 ∧ (let M6 : mM := mUp M 43 (va_cpy (M 41) (M 43) i.toNatClampNeg j.toNatClampNeg n.toNatClampNeg); P (some (.inl n)) M6)) ∧ (¬ (¬ b = 0) → P (some (.inl (-12))) M)) :
    mRun (mSx g) (f_X7_copy g) P (82, [some (.inr (some 0)), some (.inl s), some (.inl i), some (.inl q), some (.inl j), some (.inl n), some (.inr (some 40)), some (.inr (some 42))], [.inl b], M) := mRun.vc (m_X7_copy g) [] 11 h

theorem copy_run_40_42 (g : mG) (M : mM) (P : mP) (z : aZ) (i j n : Int32) (hR : RpC M z) (hI : zInv z) (hP : pubP M P (F_copy z [nI 0, i, nI 1, j, n])) :
    mRun (mSx g) (f_X7_copy g) P (12, [some (.inr (some 0)), some (.inl (nI 0)), some (.inl i), some (.inl (nI 1)), some (.inl j), some (.inl n), some (.inr (some 40)), none], [.inr (some 42)], M) := by
  have hc : F_copy z [nI 0, i, nI 1, j, n] = if (z.2.2.2 0).1 = -1 ∨ (z.2.2.2 1).1 = -1 then (-11, z) else if ¬ (z.2.2.2 0).1 = (z.2.2.2 1).1 then (-13, z) else if dHld (z.2.2.2 0).2.1 i n = true ∧ dHld (z.2.2.2 1).2.1 j n = true then (n, zS z 1 ((z.2.2.2 1).1, (z.2.2.2 1).2.1, va_cpy (z.2.2.2 0).2.2 (z.2.2.2 1).2.2 (ub i) (ub j) (ub n))) else (-12, z) := rfl
  rw [hc] at hP
  have hz1 := (hI.2.2.2 0 (by decide)).2.1
  have hz2 := (hI.2.2.2 1 (by decide)).2.1
  have hS1 := hR.2.2.2.2.1 0 (by decide)
  have hS2 := hR.2.2.2.2.1 1 (by decide)
  have a1 : M 40 1 = (z.2.2.2 0).1 := hS1.1
  have a2 : M 40 2 = nI (z.2.2.2 0).2.1 := hS1.2.1
  have b1 : M 42 1 = (z.2.2.2 1).1 := hS2.1
  have b2 : M 42 2 = nI (z.2.2.2 1).2.1 := hS2.2.1
  have stay : ∀ v w : Int32, v = w → pubP M P (w, z) → P (some (.inl v)) M := fun v w e h => h v M e hR FrC.refl
  have kF : ¬ ((z.2.2.2 0).1 = -1 ∨ (z.2.2.2 1).1 = -1) → (z.2.2.2 0).1 = (z.2.2.2 1).1 → dHld (z.2.2.2 0).2.1 i n = true → ∀ b, b = mb (dHld (z.2.2.2 1).2.1 j n = true) → mRun (mSx g) (f_X7_copy g) P (82, [some (.inr (some 0)), some (.inl (nI 0)), some (.inl i), some (.inl (nI 1)), some (.inl j), some (.inl n), some (.inr (some 40)), some (.inr (some 42))], [.inl b], M) := fun w1 w2 w3 b hb => by
    rw [if_neg w1, if_neg (fun y => y w2)] at hP
    refine v_copyF_40_42 g M P _ _ _ _ _ _ ?_
    rw [hb]
    by_cases h : dHld (z.2.2.2 1).2.1 j n = true
    · rw [if_pos ⟨w3, h⟩] at hP
      rw [mb_t h]
      refine ⟨fun _ => ?_, fun y => absurd (by decide) y⟩
      obtain ⟨a, m, rfl, rfl, ham⟩ := dHld_t hz1 w3
      obtain ⟨b, m', rfl, hm', hbm⟩ := dHld_t hz2 h
      have hlen : m ≤ 40 ∧ m' ≤ 40 := ⟨by omega, by omega⟩
      obtain rfl : m = m' := by
        have := congrArg Int32.toInt hm'
        rw [nI_toInt (by omega), nI_toInt (by omega)] at this
        omega
      rw [ub_nI (by omega), ub_nI (by omega), ub_nI (by omega)] at hP
      have ca : (nI a).toNatClampNeg = a := nI_clamp (by omega)
      have cb : (nI b).toNatClampNeg = b := nI_clamp (by omega)
      have cm : (nI m).toNatClampNeg = m := nI_clamp (by omega)
      refine ⟨40, 40, ⟨_, mSx_at rfl⟩, ⟨_, mSx_at rfl⟩, nI_pos (by omega), nI_pos (by omega), nI_pos (by omega), by rw [ca, cm]; omega, by rw [cb, cm]; omega, ?_⟩
      rw [ca, cb, cm]
      intro M2
      refine hP _ M2 rfl (RpC_sheet hR (by decide) ⟨?_, ?_, fun y hy => ?_⟩ (fun d h1 h2 => mUp_ne h2)) (fun d h1 => mUp_ne (by omega))
      · show mUp M 43 _ 42 1 = _
        rw [mUp_ne (by decide)]
        exact b1
      · show mUp M 43 _ 42 2 = _
        rw [mUp_ne (by decide)]
        exact b2
      · show mUp M 43 _ 43 y = shC (z.2.2.2 1).1 (va_cpy (z.2.2.2 0).2.2 (z.2.2.2 1).2.2 a b m y)
        rw [mUp_at]
        by_cases hy2 : b ≤ y ∧ y < b + m
        · rw [pk_cpy_in hy2.1 hy2.2, pk_cpy_in hy2.1 hy2.2, ← w2]
          exact hS1.2.2 _ (by omega)
        · rw [pk_cpy_out (by omega), pk_cpy_out (by omega)]
          exact hS2.2.2 y hy
    · rw [if_neg (fun y => h y.2)] at hP
      rw [mb_f h]
      exact ⟨fun y => absurd rfl y, fun _ => stay _ _ rfl hP⟩
  have kE : ¬ ((z.2.2.2 0).1 = -1 ∨ (z.2.2.2 1).1 = -1) → (z.2.2.2 0).1 = (z.2.2.2 1).1 → ∀ b, b = mb (dHld (z.2.2.2 0).2.1 i n = true) → mRun (mSx g) (f_X7_copy g) P (70, [some (.inr (some 0)), some (.inl (nI 0)), some (.inl i), some (.inl (nI 1)), some (.inl j), some (.inl n), some (.inr (some 40)), some (.inr (some 42))], [.inl b], M) := fun w1 w2 b hb => by
    refine v_copyE_40_42 g M P _ _ _ _ _ _ ?_
    rw [hb, b2]
    by_cases h : dHld (z.2.2.2 0).2.1 i n = true
    · rw [mb_t h]
      exact ⟨fun y => absurd y (by decide), fun _ => hold_cs b (A := True) (fun v => mRun (mSx g) (f_X7_copy g) P (82, [some (.inr (some 0)), some (.inl (nI 0)), some (.inl i), some (.inl (nI 1)), some (.inl j), some (.inl n), some (.inr (some 40)), some (.inr (some 42))], [.inl v], M)) (kF w1 w2 h) hz2⟩
    · rw [if_neg w1, if_neg (fun y => y w2), if_neg (fun y => h y.1)] at hP
      rw [mb_f h]
      exact ⟨fun _ => stay _ _ rfl hP, fun y => absurd rfl y⟩
  have kD : ¬ (z.2.2.2 0).1 = -1 → ∀ b, b = mb ((z.2.2.2 1).1 = -1) → mRun (mSx g) (f_X7_copy g) P (40, [some (.inr (some 0)), some (.inl (nI 0)), some (.inl i), some (.inl (nI 1)), some (.inl j), some (.inl n), some (.inr (some 40)), some (.inr (some 42))], [.inl b], M) := fun w1 b hb => by
    refine v_copyD_40_42 g M P _ _ _ _ _ _ ?_
    rw [hb, a1]
    try rw [b1]
    rw [a2]
    by_cases h : (z.2.2.2 1).1 = -1
    · rw [if_pos (Or.inr h)] at hP
      rw [mb_t h]
      exact ⟨fun y => absurd y (by decide), fun _ => stay _ _ rfl hP⟩
    · have w : ¬ ((z.2.2.2 0).1 = -1 ∨ (z.2.2.2 1).1 = -1) := fun y => y.elim w1 h
      rw [mb_f h]
      refine ⟨fun _ => ⟨fun w2 => hold_cs b (A := True) (fun v => mRun (mSx g) (f_X7_copy g) P (70, [some (.inr (some 0)), some (.inl (nI 0)), some (.inl i), some (.inl (nI 1)), some (.inl j), some (.inl n), some (.inr (some 40)), some (.inr (some 42))], [.inl v], M)) (kE w w2) hz1, fun w2 => ?_⟩, fun y => absurd rfl y⟩
      rw [if_neg w, if_pos w2] at hP
      exact stay _ _ rfl hP
  have kC : ∀ b, b = mb ((z.2.2.2 0).1 = -1) → mRun (mSx g) (f_X7_copy g) P (32, [some (.inr (some 0)), some (.inl (nI 0)), some (.inl i), some (.inl (nI 1)), some (.inl j), some (.inl n), some (.inr (some 40)), some (.inr (some 42))], [.inl b], M) := fun b hb => by
    refine v_copyC_40_42 g M P _ _ _ _ _ _ ?_
    rw [hb, b1]
    by_cases h : (z.2.2.2 0).1 = -1
    · rw [if_pos (Or.inl h)] at hP
      rw [mb_t h]
      exact ⟨fun _ => stay _ _ rfl hP, fun y => absurd (by decide) y⟩
    · rw [mb_f h]
      exact ⟨fun y => absurd rfl y, fun _ => ⟨fun w => ⟨Or.inl rfl, kD h _ (mb_f w).symm⟩, fun w => ⟨Or.inr rfl, kD h _ (mb_t (Classical.not_not.mp w)).symm⟩⟩⟩
  refine v_copyB_40_42 g M P _ _ _ _ _ ?_
  rw [a1]
  exact ⟨fun w => ⟨Or.inl rfl, kC _ (mb_f w).symm⟩, fun w => ⟨Or.inr rfl, kC _ (mb_t (Classical.not_not.mp w)).symm⟩⟩
theorem v_copyB_40_44 (g : mG) (M : mM) (P : mP) (s i q j n : Int32)
    (h : (¬ (M 40 1) = (-1) → ((nI 0) = 0 ∨ (nI 0) = 1) ∧ (mRun (mSx g) (f_X7_copy g) P (32, [some (.inr (some 0)), some (.inl s), some (.inl i), some (.inl q), some (.inl j), some (.inl n), some (.inr (some 40)), some (.inr (some 44))], [.inl (nI 0)], M))) ∧ (¬ (¬ (M 40 1) = (-1)) → ((nI 1) = 0 ∨ (nI 1) = 1) ∧ (mRun (mSx g) (f_X7_copy g) P (32, [some (.inr (some 0)), some (.inl s), some (.inl i), some (.inl q), some (.inl j), some (.inl n), some (.inr (some 40)), some (.inr (some 44))], [.inl (nI 1)], M)))) :
    mRun (mSx g) (f_X7_copy g) P (12, [some (.inr (some 0)), some (.inl s), some (.inl i), some (.inl q), some (.inl j), some (.inl n), some (.inr (some 40)), none], [.inr (some 44)], M) := mRun.vc (m_X7_copy g) [32] 8 h

theorem v_copyC_40_44 (g : mG) (M : mM) (P : mP) (s i q j n : Int32) (b : Int32)
    (h : (¬ b = 0 → P (some (.inl (-11))) M) ∧ (¬ (¬ b = 0) → (¬ (M 44 1) = (-1) → ((nI 0) = 0 ∨ (nI 0) = 1) ∧ (mRun (mSx g) (f_X7_copy g) P (40, [some (.inr (some 0)), some (.inl s), some (.inl i), some (.inl q), some (.inl j), some (.inl n), some (.inr (some 40)), some (.inr (some 44))], [.inl (nI 0)], M))) ∧ (¬ (¬ (M 44 1) = (-1)) → ((nI 1) = 0 ∨ (nI 1) = 1) ∧ (mRun (mSx g) (f_X7_copy g) P (40, [some (.inr (some 0)), some (.inl s), some (.inl i), some (.inl q), some (.inl j), some (.inl n), some (.inr (some 40)), some (.inr (some 44))], [.inl (nI 1)], M))))) :
    mRun (mSx g) (f_X7_copy g) P (32, [some (.inr (some 0)), some (.inl s), some (.inl i), some (.inl q), some (.inl j), some (.inl n), some (.inr (some 40)), some (.inr (some 44))], [.inl b], M) := mRun.vc (m_X7_copy g) [40] 4 h

theorem v_copyD_40_44 (g : mG) (M : mM) (P : mP) (s i q j n : Int32) (b : Int32)
    (h : (b = 0 → ((M 40 1) = (M 44 1) → (i < 0 → ((nI 0) = 0 ∨ (nI 0) = 1) ∧ (mRun (mSx g) (f_X7_copy g) P (70, [some (.inr (some 0)), some (.inl s), some (.inl i), some (.inl q), some (.inl j), some (.inl n), some (.inr (some 40)), some (.inr (some 44))], [.inl (nI 0)], M))) ∧ (¬ (i < 0) → (n < 0 → ((nI 0) = 0 ∨ (nI 0) = 1) ∧ (mRun (mSx g) (f_X7_copy g) P (70, [some (.inr (some 0)), some (.inl s), some (.inl i), some (.inl q), some (.inl j), some (.inl n), some (.inr (some 40)), some (.inr (some 44))], [.inl (nI 0)], M))) ∧ (¬ (n < 0) → ((M 40 2) < n → ((nI 0) = 0 ∨ (nI 0) = 1) ∧ (mRun (mSx g) (f_X7_copy g) P (70, [some (.inr (some 0)), some (.inl s), some (.inl i), some (.inl q), some (.inl j), some (.inl n), some (.inr (some 40)), some (.inr (some 44))], [.inl (nI 0)], M))) ∧ (¬ ((M 40 2) < n) → (((M 40 2) - n) < i → ((nI 0) = 0 ∨ (nI 0) = 1) ∧ (mRun (mSx g) (f_X7_copy g) P (70, [some (.inr (some 0)), some (.inl s), some (.inl i), some (.inl q), some (.inl j), some (.inl n), some (.inr (some 40)), some (.inr (some 44))], [.inl (nI 0)], M))) ∧ (¬ (((M 40 2) - n) < i) → ((nI 1) = 0 ∨ (nI 1) = 1) ∧ (mRun (mSx g) (f_X7_copy g) P (70, [some (.inr (some 0)), some (.inl s), some (.inl i), some (.inl q), some (.inl j), some (.inl n), some (.inr (some 40)), some (.inr (some 44))], [.inl (nI 1)], M))))))) ∧ (¬ ((M 40 1) = (M 44 1)) → P (some (.inl (-13))) M)) ∧ (¬ (b = 0) → P (some (.inl (-11))) M)) :
    mRun (mSx g) (f_X7_copy g) P (40, [some (.inr (some 0)), some (.inl s), some (.inl i), some (.inl q), some (.inl j), some (.inl n), some (.inr (some 40)), some (.inr (some 44))], [.inl b], M) := mRun.vc (m_X7_copy g) [70] 11 h

theorem v_copyE_40_44 (g : mG) (M : mM) (P : mP) (s i q j n : Int32) (b : Int32)
    (h : (b = 0 → P (some (.inl (-12))) M) ∧ (¬ (b = 0) → (j < 0 → ((nI 0) = 0 ∨ (nI 0) = 1) ∧ (mRun (mSx g) (f_X7_copy g) P (82, [some (.inr (some 0)), some (.inl s), some (.inl i), some (.inl q), some (.inl j), some (.inl n), some (.inr (some 40)), some (.inr (some 44))], [.inl (nI 0)], M))) ∧ (¬ (j < 0) → (n < 0 → ((nI 0) = 0 ∨ (nI 0) = 1) ∧ (mRun (mSx g) (f_X7_copy g) P (82, [some (.inr (some 0)), some (.inl s), some (.inl i), some (.inl q), some (.inl j), some (.inl n), some (.inr (some 40)), some (.inr (some 44))], [.inl (nI 0)], M))) ∧ (¬ (n < 0) → ((M 44 2) < n → ((nI 0) = 0 ∨ (nI 0) = 1) ∧ (mRun (mSx g) (f_X7_copy g) P (82, [some (.inr (some 0)), some (.inl s), some (.inl i), some (.inl q), some (.inl j), some (.inl n), some (.inr (some 40)), some (.inr (some 44))], [.inl (nI 0)], M))) ∧ (¬ ((M 44 2) < n) → (((M 44 2) - n) < j → ((nI 0) = 0 ∨ (nI 0) = 1) ∧ (mRun (mSx g) (f_X7_copy g) P (82, [some (.inr (some 0)), some (.inl s), some (.inl i), some (.inl q), some (.inl j), some (.inl n), some (.inr (some 40)), some (.inr (some 44))], [.inl (nI 0)], M))) ∧ (¬ (((M 44 2) - n) < j) → ((nI 1) = 0 ∨ (nI 1) = 1) ∧ (mRun (mSx g) (f_X7_copy g) P (82, [some (.inr (some 0)), some (.inl s), some (.inl i), some (.inl q), some (.inl j), some (.inl n), some (.inr (some 40)), some (.inr (some 44))], [.inl (nI 1)], M)))))))) :
    mRun (mSx g) (f_X7_copy g) P (70, [some (.inr (some 0)), some (.inl s), some (.inl i), some (.inl q), some (.inl j), some (.inl n), some (.inr (some 40)), some (.inr (some 44))], [.inl b], M) := mRun.vc (m_X7_copy g) [82] 6 h

theorem v_copyF_40_44 (g : mG) (M : mM) (P : mP) (s i q j n : Int32) (b : Int32)
    (h : (¬ b = 0 → ∃ n2 n3 : Nat, (∃ ra, (mSx g)[41]? = some (0, n2, ra)) ∧ (∃ rb, (mSx g)[45]? = some (0, n3, rb)) ∧ ¬ i < 0 ∧ ¬ j < 0 ∧ ¬ n < 0 ∧ i.toNatClampNeg + n.toNatClampNeg ≤ n2 ∧ j.toNatClampNeg + n.toNatClampNeg ≤ n3 ∧ (let M6 : mM := mUp M 45 (va_cpy (M 41) (M 45) i.toNatClampNeg j.toNatClampNeg n.toNatClampNeg); P (some (.inl n)) M6)) ∧ (¬ (¬ b = 0) → P (some (.inl (-12))) M)) :
    mRun (mSx g) (f_X7_copy g) P (82, [some (.inr (some 0)), some (.inl s), some (.inl i), some (.inl q), some (.inl j), some (.inl n), some (.inr (some 40)), some (.inr (some 44))], [.inl b], M) := mRun.vc (m_X7_copy g) [] 11 h

theorem copy_run_40_44 (g : mG) (M : mM) (P : mP) (z : aZ) (i j n : Int32) (hR : RpC M z) (hI : zInv z) (hP : pubP M P (F_copy z [nI 0, i, nI 2, j, n])) :
    mRun (mSx g) (f_X7_copy g) P (12, [some (.inr (some 0)), some (.inl (nI 0)), some (.inl i), some (.inl (nI 2)), some (.inl j), some (.inl n), some (.inr (some 40)), none], [.inr (some 44)], M) := by
  have hc : F_copy z [nI 0, i, nI 2, j, n] = if (z.2.2.2 0).1 = -1 ∨ (z.2.2.2 2).1 = -1 then (-11, z) else if ¬ (z.2.2.2 0).1 = (z.2.2.2 2).1 then (-13, z) else if dHld (z.2.2.2 0).2.1 i n = true ∧ dHld (z.2.2.2 2).2.1 j n = true then (n, zS z 2 ((z.2.2.2 2).1, (z.2.2.2 2).2.1, va_cpy (z.2.2.2 0).2.2 (z.2.2.2 2).2.2 (ub i) (ub j) (ub n))) else (-12, z) := rfl
  rw [hc] at hP
  have hz1 := (hI.2.2.2 0 (by decide)).2.1
  have hz2 := (hI.2.2.2 2 (by decide)).2.1
  have hS1 := hR.2.2.2.2.1 0 (by decide)
  have hS2 := hR.2.2.2.2.1 2 (by decide)
  have a1 : M 40 1 = (z.2.2.2 0).1 := hS1.1
  have a2 : M 40 2 = nI (z.2.2.2 0).2.1 := hS1.2.1
  have b1 : M 44 1 = (z.2.2.2 2).1 := hS2.1
  have b2 : M 44 2 = nI (z.2.2.2 2).2.1 := hS2.2.1
  have stay : ∀ v w : Int32, v = w → pubP M P (w, z) → P (some (.inl v)) M := fun v w e h => h v M e hR FrC.refl
  have kF : ¬ ((z.2.2.2 0).1 = -1 ∨ (z.2.2.2 2).1 = -1) → (z.2.2.2 0).1 = (z.2.2.2 2).1 → dHld (z.2.2.2 0).2.1 i n = true → ∀ b, b = mb (dHld (z.2.2.2 2).2.1 j n = true) → mRun (mSx g) (f_X7_copy g) P (82, [some (.inr (some 0)), some (.inl (nI 0)), some (.inl i), some (.inl (nI 2)), some (.inl j), some (.inl n), some (.inr (some 40)), some (.inr (some 44))], [.inl b], M) := fun w1 w2 w3 b hb => by
    rw [if_neg w1, if_neg (fun y => y w2)] at hP
    refine v_copyF_40_44 g M P _ _ _ _ _ _ ?_
    rw [hb]
    by_cases h : dHld (z.2.2.2 2).2.1 j n = true
    · rw [if_pos ⟨w3, h⟩] at hP
      rw [mb_t h]
      refine ⟨fun _ => ?_, fun y => absurd (by decide) y⟩
      obtain ⟨a, m, rfl, rfl, ham⟩ := dHld_t hz1 w3
      obtain ⟨b, m', rfl, hm', hbm⟩ := dHld_t hz2 h
      have hlen : m ≤ 40 ∧ m' ≤ 40 := ⟨by omega, by omega⟩
      obtain rfl : m = m' := by
        have := congrArg Int32.toInt hm'
        rw [nI_toInt (by omega), nI_toInt (by omega)] at this
        omega
      rw [ub_nI (by omega), ub_nI (by omega), ub_nI (by omega)] at hP
      have ca : (nI a).toNatClampNeg = a := nI_clamp (by omega)
      have cb : (nI b).toNatClampNeg = b := nI_clamp (by omega)
      have cm : (nI m).toNatClampNeg = m := nI_clamp (by omega)
      refine ⟨40, 40, ⟨_, mSx_at rfl⟩, ⟨_, mSx_at rfl⟩, nI_pos (by omega), nI_pos (by omega), nI_pos (by omega), by rw [ca, cm]; omega, by rw [cb, cm]; omega, ?_⟩
      rw [ca, cb, cm]
      intro M2
      refine hP _ M2 rfl (RpC_sheet hR (by decide) ⟨?_, ?_, fun y hy => ?_⟩ (fun d h1 h2 => mUp_ne h2)) (fun d h1 => mUp_ne (by omega))
      · show mUp M 45 _ 44 1 = _
        rw [mUp_ne (by decide)]
        exact b1
      · show mUp M 45 _ 44 2 = _
        rw [mUp_ne (by decide)]
        exact b2
      · show mUp M 45 _ 45 y = shC (z.2.2.2 2).1 (va_cpy (z.2.2.2 0).2.2 (z.2.2.2 2).2.2 a b m y)
        rw [mUp_at]
        by_cases hy2 : b ≤ y ∧ y < b + m
        · rw [pk_cpy_in hy2.1 hy2.2, pk_cpy_in hy2.1 hy2.2, ← w2]
          exact hS1.2.2 _ (by omega)
        · rw [pk_cpy_out (by omega), pk_cpy_out (by omega)]
          exact hS2.2.2 y hy
    · rw [if_neg (fun y => h y.2)] at hP
      rw [mb_f h]
      exact ⟨fun y => absurd rfl y, fun _ => stay _ _ rfl hP⟩
  have kE : ¬ ((z.2.2.2 0).1 = -1 ∨ (z.2.2.2 2).1 = -1) → (z.2.2.2 0).1 = (z.2.2.2 2).1 → ∀ b, b = mb (dHld (z.2.2.2 0).2.1 i n = true) → mRun (mSx g) (f_X7_copy g) P (70, [some (.inr (some 0)), some (.inl (nI 0)), some (.inl i), some (.inl (nI 2)), some (.inl j), some (.inl n), some (.inr (some 40)), some (.inr (some 44))], [.inl b], M) := fun w1 w2 b hb => by
    refine v_copyE_40_44 g M P _ _ _ _ _ _ ?_
    rw [hb, b2]
    by_cases h : dHld (z.2.2.2 0).2.1 i n = true
    · rw [mb_t h]
      exact ⟨fun y => absurd y (by decide), fun _ => hold_cs b (A := True) (fun v => mRun (mSx g) (f_X7_copy g) P (82, [some (.inr (some 0)), some (.inl (nI 0)), some (.inl i), some (.inl (nI 2)), some (.inl j), some (.inl n), some (.inr (some 40)), some (.inr (some 44))], [.inl v], M)) (kF w1 w2 h) hz2⟩
    · rw [if_neg w1, if_neg (fun y => y w2), if_neg (fun y => h y.1)] at hP
      rw [mb_f h]
      exact ⟨fun _ => stay _ _ rfl hP, fun y => absurd rfl y⟩
  have kD : ¬ (z.2.2.2 0).1 = -1 → ∀ b, b = mb ((z.2.2.2 2).1 = -1) → mRun (mSx g) (f_X7_copy g) P (40, [some (.inr (some 0)), some (.inl (nI 0)), some (.inl i), some (.inl (nI 2)), some (.inl j), some (.inl n), some (.inr (some 40)), some (.inr (some 44))], [.inl b], M) := fun w1 b hb => by
    refine v_copyD_40_44 g M P _ _ _ _ _ _ ?_
    rw [hb, a1]
    try rw [b1]
    rw [a2]
    by_cases h : (z.2.2.2 2).1 = -1
    · rw [if_pos (Or.inr h)] at hP
      rw [mb_t h]
      exact ⟨fun y => absurd y (by decide), fun _ => stay _ _ rfl hP⟩
    · have w : ¬ ((z.2.2.2 0).1 = -1 ∨ (z.2.2.2 2).1 = -1) := fun y => y.elim w1 h
      rw [mb_f h]
      refine ⟨fun _ => ⟨fun w2 => hold_cs b (A := True) (fun v => mRun (mSx g) (f_X7_copy g) P (70, [some (.inr (some 0)), some (.inl (nI 0)), some (.inl i), some (.inl (nI 2)), some (.inl j), some (.inl n), some (.inr (some 40)), some (.inr (some 44))], [.inl v], M)) (kE w w2) hz1, fun w2 => ?_⟩, fun y => absurd rfl y⟩
      rw [if_neg w, if_pos w2] at hP
      exact stay _ _ rfl hP
  have kC : ∀ b, b = mb ((z.2.2.2 0).1 = -1) → mRun (mSx g) (f_X7_copy g) P (32, [some (.inr (some 0)), some (.inl (nI 0)), some (.inl i), some (.inl (nI 2)), some (.inl j), some (.inl n), some (.inr (some 40)), some (.inr (some 44))], [.inl b], M) := fun b hb => by
    refine v_copyC_40_44 g M P _ _ _ _ _ _ ?_
    rw [hb, b1]
    by_cases h : (z.2.2.2 0).1 = -1
    · rw [if_pos (Or.inl h)] at hP
      rw [mb_t h]
      exact ⟨fun _ => stay _ _ rfl hP, fun y => absurd (by decide) y⟩
    · rw [mb_f h]
      exact ⟨fun y => absurd rfl y, fun _ => ⟨fun w => ⟨Or.inl rfl, kD h _ (mb_f w).symm⟩, fun w => ⟨Or.inr rfl, kD h _ (mb_t (Classical.not_not.mp w)).symm⟩⟩⟩
  refine v_copyB_40_44 g M P _ _ _ _ _ ?_
  rw [a1]
  exact ⟨fun w => ⟨Or.inl rfl, kC _ (mb_f w).symm⟩, fun w => ⟨Or.inr rfl, kC _ (mb_t (Classical.not_not.mp w)).symm⟩⟩
theorem v_copyB_40_46 (g : mG) (M : mM) (P : mP) (s i q j n : Int32)
    (h : (¬ (M 40 1) = (-1) → ((nI 0) = 0 ∨ (nI 0) = 1) ∧ (mRun (mSx g) (f_X7_copy g) P (32, [some (.inr (some 0)), some (.inl s), some (.inl i), some (.inl q), some (.inl j), some (.inl n), some (.inr (some 40)), some (.inr (some 46))], [.inl (nI 0)], M))) ∧ (¬ (¬ (M 40 1) = (-1)) → ((nI 1) = 0 ∨ (nI 1) = 1) ∧ (mRun (mSx g) (f_X7_copy g) P (32, [some (.inr (some 0)), some (.inl s), some (.inl i), some (.inl q), some (.inl j), some (.inl n), some (.inr (some 40)), some (.inr (some 46))], [.inl (nI 1)], M)))) :
    mRun (mSx g) (f_X7_copy g) P (12, [some (.inr (some 0)), some (.inl s), some (.inl i), some (.inl q), some (.inl j), some (.inl n), some (.inr (some 40)), none], [.inr (some 46)], M) := mRun.vc (m_X7_copy g) [32] 8 h

theorem v_copyC_40_46 (g : mG) (M : mM) (P : mP) (s i q j n : Int32) (b : Int32)
    (h : (¬ b = 0 → P (some (.inl (-11))) M) ∧ (¬ (¬ b = 0) → (¬ (M 46 1) = (-1) → ((nI 0) = 0 ∨ (nI 0) = 1) ∧ (mRun (mSx g) (f_X7_copy g) P (40, [some (.inr (some 0)), some (.inl s), some (.inl i), some (.inl q), some (.inl j), some (.inl n), some (.inr (some 40)), some (.inr (some 46))], [.inl (nI 0)], M))) ∧ (¬ (¬ (M 46 1) = (-1)) → ((nI 1) = 0 ∨ (nI 1) = 1) ∧ (mRun (mSx g) (f_X7_copy g) P (40, [some (.inr (some 0)), some (.inl s), some (.inl i), some (.inl q), some (.inl j), some (.inl n), some (.inr (some 40)), some (.inr (some 46))], [.inl (nI 1)], M))))) :
    mRun (mSx g) (f_X7_copy g) P (32, [some (.inr (some 0)), some (.inl s), some (.inl i), some (.inl q), some (.inl j), some (.inl n), some (.inr (some 40)), some (.inr (some 46))], [.inl b], M) := mRun.vc (m_X7_copy g) [40] 4 h

theorem v_copyD_40_46 (g : mG) (M : mM) (P : mP) (s i q j n : Int32) (b : Int32)
    (h : (b = 0 → ((M 40 1) = (M 46 1) → (i < 0 → ((nI 0) = 0 ∨ (nI 0) = 1) ∧ (mRun (mSx g) (f_X7_copy g) P (70, [some (.inr (some 0)), some (.inl s), some (.inl i), some (.inl q), some (.inl j), some (.inl n), some (.inr (some 40)), some (.inr (some 46))], [.inl (nI 0)], M))) ∧ (¬ (i < 0) → (n < 0 → ((nI 0) = 0 ∨ (nI 0) = 1) ∧ (mRun (mSx g) (f_X7_copy g) P (70, [some (.inr (some 0)), some (.inl s), some (.inl i), some (.inl q), some (.inl j), some (.inl n), some (.inr (some 40)), some (.inr (some 46))], [.inl (nI 0)], M))) ∧ (¬ (n < 0) → ((M 40 2) < n → ((nI 0) = 0 ∨ (nI 0) = 1) ∧ (mRun (mSx g) (f_X7_copy g) P (70, [some (.inr (some 0)), some (.inl s), some (.inl i), some (.inl q), some (.inl j), some (.inl n), some (.inr (some 40)), some (.inr (some 46))], [.inl (nI 0)], M))) ∧ (¬ ((M 40 2) < n) → (((M 40 2) - n) < i → ((nI 0) = 0 ∨ (nI 0) = 1) ∧ (mRun (mSx g) (f_X7_copy g) P (70, [some (.inr (some 0)), some (.inl s), some (.inl i), some (.inl q), some (.inl j), some (.inl n), some (.inr (some 40)), some (.inr (some 46))], [.inl (nI 0)], M))) ∧ (¬ (((M 40 2) - n) < i) → ((nI 1) = 0 ∨ (nI 1) = 1) ∧ (mRun (mSx g) (f_X7_copy g) P (70, [some (.inr (some 0)), some (.inl s), some (.inl i), some (.inl q), some (.inl j), some (.inl n), some (.inr (some 40)), some (.inr (some 46))], [.inl (nI 1)], M))))))) ∧ (¬ ((M 40 1) = (M 46 1)) → P (some (.inl (-13))) M)) ∧ (¬ (b = 0) → P (some (.inl (-11))) M)) :
    mRun (mSx g) (f_X7_copy g) P (40, [some (.inr (some 0)), some (.inl s), some (.inl i), some (.inl q), some (.inl j), some (.inl n), some (.inr (some 40)), some (.inr (some 46))], [.inl b], M) := mRun.vc (m_X7_copy g) [70] 11 h

theorem v_copyE_40_46 (g : mG) (M : mM) (P : mP) (s i q j n : Int32) (b : Int32)
    (h : (b = 0 → P (some (.inl (-12))) M) ∧ (¬ (b = 0) → (j < 0 → ((nI 0) = 0 ∨ (nI 0) = 1) ∧ (mRun (mSx g) (f_X7_copy g) P (82, [some (.inr (some 0)), some (.inl s), some (.inl i), some (.inl q), some (.inl j), some (.inl n), some (.inr (some 40)), some (.inr (some 46))], [.inl (nI 0)], M))) ∧ (¬ (j < 0) → (n < 0 → ((nI 0) = 0 ∨ (nI 0) = 1) ∧ (mRun (mSx g) (f_X7_copy g) P (82, [some (.inr (some 0)), some (.inl s), some (.inl i), some (.inl q), some (.inl j), some (.inl n), some (.inr (some 40)), some (.inr (some 46))], [.inl (nI 0)], M))) ∧ (¬ (n < 0) → ((M 46 2) < n → ((nI 0) = 0 ∨ (nI 0) = 1) ∧ (mRun (mSx g) (f_X7_copy g) P (82, [some (.inr (some 0)), some (.inl s), some (.inl i), some (.inl q), some (.inl j), some (.inl n), some (.inr (some 40)), some (.inr (some 46))], [.inl (nI 0)], M))) ∧ (¬ ((M 46 2) < n) → (((M 46 2) - n) < j → ((nI 0) = 0 ∨ (nI 0) = 1) ∧ (mRun (mSx g) (f_X7_copy g) P (82, [some (.inr (some 0)), some (.inl s), some (.inl i), some (.inl q), some (.inl j), some (.inl n), some (.inr (some 40)), some (.inr (some 46))], [.inl (nI 0)], M))) ∧ (¬ (((M 46 2) - n) < j) → ((nI 1) = 0 ∨ (nI 1) = 1) ∧ (mRun (mSx g) (f_X7_copy g) P (82, [some (.inr (some 0)), some (.inl s), some (.inl i), some (.inl q), some (.inl j), some (.inl n), some (.inr (some 40)), some (.inr (some 46))], [.inl (nI 1)], M)))))))) :
    mRun (mSx g) (f_X7_copy g) P (70, [some (.inr (some 0)), some (.inl s), some (.inl i), some (.inl q), some (.inl j), some (.inl n), some (.inr (some 40)), some (.inr (some 46))], [.inl b], M) := mRun.vc (m_X7_copy g) [82] 6 h

theorem v_copyF_40_46 (g : mG) (M : mM) (P : mP) (s i q j n : Int32) (b : Int32)
    (h : (¬ b = 0 → ∃ n2 n3 : Nat, (∃ ra, (mSx g)[41]? = some (0, n2, ra)) ∧ (∃ rb, (mSx g)[47]? = some (0, n3, rb)) ∧ ¬ i < 0 ∧ ¬ j < 0 ∧ ¬ n < 0 ∧ i.toNatClampNeg + n.toNatClampNeg ≤ n2 ∧ j.toNatClampNeg + n.toNatClampNeg ≤ n3 ∧ (let M6 : mM := mUp M 47 (va_cpy (M 41) (M 47) i.toNatClampNeg j.toNatClampNeg n.toNatClampNeg); P (some (.inl n)) M6)) ∧ (¬ (¬ b = 0) → P (some (.inl (-12))) M)) :
    mRun (mSx g) (f_X7_copy g) P (82, [some (.inr (some 0)), some (.inl s), some (.inl i), some (.inl q), some (.inl j), some (.inl n), some (.inr (some 40)), some (.inr (some 46))], [.inl b], M) := mRun.vc (m_X7_copy g) [] 11 h

theorem copy_run_40_46 (g : mG) (M : mM) (P : mP) (z : aZ) (i j n : Int32) (hR : RpC M z) (hI : zInv z) (hP : pubP M P (F_copy z [nI 0, i, nI 3, j, n])) :
    mRun (mSx g) (f_X7_copy g) P (12, [some (.inr (some 0)), some (.inl (nI 0)), some (.inl i), some (.inl (nI 3)), some (.inl j), some (.inl n), some (.inr (some 40)), none], [.inr (some 46)], M) := by
  have hc : F_copy z [nI 0, i, nI 3, j, n] = if (z.2.2.2 0).1 = -1 ∨ (z.2.2.2 3).1 = -1 then (-11, z) else if ¬ (z.2.2.2 0).1 = (z.2.2.2 3).1 then (-13, z) else if dHld (z.2.2.2 0).2.1 i n = true ∧ dHld (z.2.2.2 3).2.1 j n = true then (n, zS z 3 ((z.2.2.2 3).1, (z.2.2.2 3).2.1, va_cpy (z.2.2.2 0).2.2 (z.2.2.2 3).2.2 (ub i) (ub j) (ub n))) else (-12, z) := rfl
  rw [hc] at hP
  have hz1 := (hI.2.2.2 0 (by decide)).2.1
  have hz2 := (hI.2.2.2 3 (by decide)).2.1
  have hS1 := hR.2.2.2.2.1 0 (by decide)
  have hS2 := hR.2.2.2.2.1 3 (by decide)
  have a1 : M 40 1 = (z.2.2.2 0).1 := hS1.1
  have a2 : M 40 2 = nI (z.2.2.2 0).2.1 := hS1.2.1
  have b1 : M 46 1 = (z.2.2.2 3).1 := hS2.1
  have b2 : M 46 2 = nI (z.2.2.2 3).2.1 := hS2.2.1
  have stay : ∀ v w : Int32, v = w → pubP M P (w, z) → P (some (.inl v)) M := fun v w e h => h v M e hR FrC.refl
  have kF : ¬ ((z.2.2.2 0).1 = -1 ∨ (z.2.2.2 3).1 = -1) → (z.2.2.2 0).1 = (z.2.2.2 3).1 → dHld (z.2.2.2 0).2.1 i n = true → ∀ b, b = mb (dHld (z.2.2.2 3).2.1 j n = true) → mRun (mSx g) (f_X7_copy g) P (82, [some (.inr (some 0)), some (.inl (nI 0)), some (.inl i), some (.inl (nI 3)), some (.inl j), some (.inl n), some (.inr (some 40)), some (.inr (some 46))], [.inl b], M) := fun w1 w2 w3 b hb => by
    rw [if_neg w1, if_neg (fun y => y w2)] at hP
    refine v_copyF_40_46 g M P _ _ _ _ _ _ ?_
    rw [hb]
    by_cases h : dHld (z.2.2.2 3).2.1 j n = true
    · rw [if_pos ⟨w3, h⟩] at hP
      rw [mb_t h]
      refine ⟨fun _ => ?_, fun y => absurd (by decide) y⟩
      obtain ⟨a, m, rfl, rfl, ham⟩ := dHld_t hz1 w3
      obtain ⟨b, m', rfl, hm', hbm⟩ := dHld_t hz2 h
      have hlen : m ≤ 40 ∧ m' ≤ 40 := ⟨by omega, by omega⟩
      obtain rfl : m = m' := by
        have := congrArg Int32.toInt hm'
        rw [nI_toInt (by omega), nI_toInt (by omega)] at this
        omega
      rw [ub_nI (by omega), ub_nI (by omega), ub_nI (by omega)] at hP
      have ca : (nI a).toNatClampNeg = a := nI_clamp (by omega)
      have cb : (nI b).toNatClampNeg = b := nI_clamp (by omega)
      have cm : (nI m).toNatClampNeg = m := nI_clamp (by omega)
      refine ⟨40, 40, ⟨_, mSx_at rfl⟩, ⟨_, mSx_at rfl⟩, nI_pos (by omega), nI_pos (by omega), nI_pos (by omega), by rw [ca, cm]; omega, by rw [cb, cm]; omega, ?_⟩
      rw [ca, cb, cm]
      intro M2
      refine hP _ M2 rfl (RpC_sheet hR (by decide) ⟨?_, ?_, fun y hy => ?_⟩ (fun d h1 h2 => mUp_ne h2)) (fun d h1 => mUp_ne (by omega))
      · show mUp M 47 _ 46 1 = _
        rw [mUp_ne (by decide)]
        exact b1
      · show mUp M 47 _ 46 2 = _
        rw [mUp_ne (by decide)]
        exact b2
      · show mUp M 47 _ 47 y = shC (z.2.2.2 3).1 (va_cpy (z.2.2.2 0).2.2 (z.2.2.2 3).2.2 a b m y)
        rw [mUp_at]
        by_cases hy2 : b ≤ y ∧ y < b + m
        · rw [pk_cpy_in hy2.1 hy2.2, pk_cpy_in hy2.1 hy2.2, ← w2]
          exact hS1.2.2 _ (by omega)
        · rw [pk_cpy_out (by omega), pk_cpy_out (by omega)]
          exact hS2.2.2 y hy
    · rw [if_neg (fun y => h y.2)] at hP
      rw [mb_f h]
      exact ⟨fun y => absurd rfl y, fun _ => stay _ _ rfl hP⟩
  have kE : ¬ ((z.2.2.2 0).1 = -1 ∨ (z.2.2.2 3).1 = -1) → (z.2.2.2 0).1 = (z.2.2.2 3).1 → ∀ b, b = mb (dHld (z.2.2.2 0).2.1 i n = true) → mRun (mSx g) (f_X7_copy g) P (70, [some (.inr (some 0)), some (.inl (nI 0)), some (.inl i), some (.inl (nI 3)), some (.inl j), some (.inl n), some (.inr (some 40)), some (.inr (some 46))], [.inl b], M) := fun w1 w2 b hb => by
    refine v_copyE_40_46 g M P _ _ _ _ _ _ ?_
    rw [hb, b2]
    by_cases h : dHld (z.2.2.2 0).2.1 i n = true
    · rw [mb_t h]
      exact ⟨fun y => absurd y (by decide), fun _ => hold_cs b (A := True) (fun v => mRun (mSx g) (f_X7_copy g) P (82, [some (.inr (some 0)), some (.inl (nI 0)), some (.inl i), some (.inl (nI 3)), some (.inl j), some (.inl n), some (.inr (some 40)), some (.inr (some 46))], [.inl v], M)) (kF w1 w2 h) hz2⟩
    · rw [if_neg w1, if_neg (fun y => y w2), if_neg (fun y => h y.1)] at hP
      rw [mb_f h]
      exact ⟨fun _ => stay _ _ rfl hP, fun y => absurd rfl y⟩
  have kD : ¬ (z.2.2.2 0).1 = -1 → ∀ b, b = mb ((z.2.2.2 3).1 = -1) → mRun (mSx g) (f_X7_copy g) P (40, [some (.inr (some 0)), some (.inl (nI 0)), some (.inl i), some (.inl (nI 3)), some (.inl j), some (.inl n), some (.inr (some 40)), some (.inr (some 46))], [.inl b], M) := fun w1 b hb => by
    refine v_copyD_40_46 g M P _ _ _ _ _ _ ?_
    rw [hb, a1]
    try rw [b1]
    rw [a2]
    by_cases h : (z.2.2.2 3).1 = -1
    · rw [if_pos (Or.inr h)] at hP
      rw [mb_t h]
      exact ⟨fun y => absurd y (by decide), fun _ => stay _ _ rfl hP⟩
    · have w : ¬ ((z.2.2.2 0).1 = -1 ∨ (z.2.2.2 3).1 = -1) := fun y => y.elim w1 h
      rw [mb_f h]
      refine ⟨fun _ => ⟨fun w2 => hold_cs b (A := True) (fun v => mRun (mSx g) (f_X7_copy g) P (70, [some (.inr (some 0)), some (.inl (nI 0)), some (.inl i), some (.inl (nI 3)), some (.inl j), some (.inl n), some (.inr (some 40)), some (.inr (some 46))], [.inl v], M)) (kE w w2) hz1, fun w2 => ?_⟩, fun y => absurd rfl y⟩
      rw [if_neg w, if_pos w2] at hP
      exact stay _ _ rfl hP
  have kC : ∀ b, b = mb ((z.2.2.2 0).1 = -1) → mRun (mSx g) (f_X7_copy g) P (32, [some (.inr (some 0)), some (.inl (nI 0)), some (.inl i), some (.inl (nI 3)), some (.inl j), some (.inl n), some (.inr (some 40)), some (.inr (some 46))], [.inl b], M) := fun b hb => by
    refine v_copyC_40_46 g M P _ _ _ _ _ _ ?_
    rw [hb, b1]
    by_cases h : (z.2.2.2 0).1 = -1
    · rw [if_pos (Or.inl h)] at hP
      rw [mb_t h]
      exact ⟨fun _ => stay _ _ rfl hP, fun y => absurd (by decide) y⟩
    · rw [mb_f h]
      exact ⟨fun y => absurd rfl y, fun _ => ⟨fun w => ⟨Or.inl rfl, kD h _ (mb_f w).symm⟩, fun w => ⟨Or.inr rfl, kD h _ (mb_t (Classical.not_not.mp w)).symm⟩⟩⟩
  refine v_copyB_40_46 g M P _ _ _ _ _ ?_
  rw [a1]
  exact ⟨fun w => ⟨Or.inl rfl, kC _ (mb_f w).symm⟩, fun w => ⟨Or.inr rfl, kC _ (mb_t (Classical.not_not.mp w)).symm⟩⟩
theorem v_copyB_42_40 (g : mG) (M : mM) (P : mP) (s i q j n : Int32)
    (h : (¬ (M 42 1) = (-1) → ((nI 0) = 0 ∨ (nI 0) = 1) ∧ (mRun (mSx g) (f_X7_copy g) P (32, [some (.inr (some 0)), some (.inl s), some (.inl i), some (.inl q), some (.inl j), some (.inl n), some (.inr (some 42)), some (.inr (some 40))], [.inl (nI 0)], M))) ∧ (¬ (¬ (M 42 1) = (-1)) → ((nI 1) = 0 ∨ (nI 1) = 1) ∧ (mRun (mSx g) (f_X7_copy g) P (32, [some (.inr (some 0)), some (.inl s), some (.inl i), some (.inl q), some (.inl j), some (.inl n), some (.inr (some 42)), some (.inr (some 40))], [.inl (nI 1)], M)))) :
    mRun (mSx g) (f_X7_copy g) P (12, [some (.inr (some 0)), some (.inl s), some (.inl i), some (.inl q), some (.inl j), some (.inl n), some (.inr (some 42)), none], [.inr (some 40)], M) := mRun.vc (m_X7_copy g) [32] 8 h

theorem v_copyC_42_40 (g : mG) (M : mM) (P : mP) (s i q j n : Int32) (b : Int32)
    (h : (¬ b = 0 → P (some (.inl (-11))) M) ∧ (¬ (¬ b = 0) → (¬ (M 40 1) = (-1) → ((nI 0) = 0 ∨ (nI 0) = 1) ∧ (mRun (mSx g) (f_X7_copy g) P (40, [some (.inr (some 0)), some (.inl s), some (.inl i), some (.inl q), some (.inl j), some (.inl n), some (.inr (some 42)), some (.inr (some 40))], [.inl (nI 0)], M))) ∧ (¬ (¬ (M 40 1) = (-1)) → ((nI 1) = 0 ∨ (nI 1) = 1) ∧ (mRun (mSx g) (f_X7_copy g) P (40, [some (.inr (some 0)), some (.inl s), some (.inl i), some (.inl q), some (.inl j), some (.inl n), some (.inr (some 42)), some (.inr (some 40))], [.inl (nI 1)], M))))) :
    mRun (mSx g) (f_X7_copy g) P (32, [some (.inr (some 0)), some (.inl s), some (.inl i), some (.inl q), some (.inl j), some (.inl n), some (.inr (some 42)), some (.inr (some 40))], [.inl b], M) := mRun.vc (m_X7_copy g) [40] 4 h

theorem v_copyD_42_40 (g : mG) (M : mM) (P : mP) (s i q j n : Int32) (b : Int32)
    (h : (b = 0 → ((M 42 1) = (M 40 1) → (i < 0 → ((nI 0) = 0 ∨ (nI 0) = 1) ∧ (mRun (mSx g) (f_X7_copy g) P (70, [some (.inr (some 0)), some (.inl s), some (.inl i), some (.inl q), some (.inl j), some (.inl n), some (.inr (some 42)), some (.inr (some 40))], [.inl (nI 0)], M))) ∧ (¬ (i < 0) → (n < 0 → ((nI 0) = 0 ∨ (nI 0) = 1) ∧ (mRun (mSx g) (f_X7_copy g) P (70, [some (.inr (some 0)), some (.inl s), some (.inl i), some (.inl q), some (.inl j), some (.inl n), some (.inr (some 42)), some (.inr (some 40))], [.inl (nI 0)], M))) ∧ (¬ (n < 0) → ((M 42 2) < n → ((nI 0) = 0 ∨ (nI 0) = 1) ∧ (mRun (mSx g) (f_X7_copy g) P (70, [some (.inr (some 0)), some (.inl s), some (.inl i), some (.inl q), some (.inl j), some (.inl n), some (.inr (some 42)), some (.inr (some 40))], [.inl (nI 0)], M))) ∧ (¬ ((M 42 2) < n) → (((M 42 2) - n) < i → ((nI 0) = 0 ∨ (nI 0) = 1) ∧ (mRun (mSx g) (f_X7_copy g) P (70, [some (.inr (some 0)), some (.inl s), some (.inl i), some (.inl q), some (.inl j), some (.inl n), some (.inr (some 42)), some (.inr (some 40))], [.inl (nI 0)], M))) ∧ (¬ (((M 42 2) - n) < i) → ((nI 1) = 0 ∨ (nI 1) = 1) ∧ (mRun (mSx g) (f_X7_copy g) P (70, [some (.inr (some 0)), some (.inl s), some (.inl i), some (.inl q), some (.inl j), some (.inl n), some (.inr (some 42)), some (.inr (some 40))], [.inl (nI 1)], M))))))) ∧ (¬ ((M 42 1) = (M 40 1)) → P (some (.inl (-13))) M)) ∧ (¬ (b = 0) → P (some (.inl (-11))) M)) :
    mRun (mSx g) (f_X7_copy g) P (40, [some (.inr (some 0)), some (.inl s), some (.inl i), some (.inl q), some (.inl j), some (.inl n), some (.inr (some 42)), some (.inr (some 40))], [.inl b], M) := mRun.vc (m_X7_copy g) [70] 11 h

theorem v_copyE_42_40 (g : mG) (M : mM) (P : mP) (s i q j n : Int32) (b : Int32)
    (h : (b = 0 → P (some (.inl (-12))) M) ∧ (¬ (b = 0) → (j < 0 → ((nI 0) = 0 ∨ (nI 0) = 1) ∧ (mRun (mSx g) (f_X7_copy g) P (82, [some (.inr (some 0)), some (.inl s), some (.inl i), some (.inl q), some (.inl j), some (.inl n), some (.inr (some 42)), some (.inr (some 40))], [.inl (nI 0)], M))) ∧ (¬ (j < 0) → (n < 0 → ((nI 0) = 0 ∨ (nI 0) = 1) ∧ (mRun (mSx g) (f_X7_copy g) P (82, [some (.inr (some 0)), some (.inl s), some (.inl i), some (.inl q), some (.inl j), some (.inl n), some (.inr (some 42)), some (.inr (some 40))], [.inl (nI 0)], M))) ∧ (¬ (n < 0) → ((M 40 2) < n → ((nI 0) = 0 ∨ (nI 0) = 1) ∧ (mRun (mSx g) (f_X7_copy g) P (82, [some (.inr (some 0)), some (.inl s), some (.inl i), some (.inl q), some (.inl j), some (.inl n), some (.inr (some 42)), some (.inr (some 40))], [.inl (nI 0)], M))) ∧ (¬ ((M 40 2) < n) → (((M 40 2) - n) < j → ((nI 0) = 0 ∨ (nI 0) = 1) ∧ (mRun (mSx g) (f_X7_copy g) P (82, [some (.inr (some 0)), some (.inl s), some (.inl i), some (.inl q), some (.inl j), some (.inl n), some (.inr (some 42)), some (.inr (some 40))], [.inl (nI 0)], M))) ∧ (¬ (((M 40 2) - n) < j) → ((nI 1) = 0 ∨ (nI 1) = 1) ∧ (mRun (mSx g) (f_X7_copy g) P (82, [some (.inr (some 0)), some (.inl s), some (.inl i), some (.inl q), some (.inl j), some (.inl n), some (.inr (some 42)), some (.inr (some 40))], [.inl (nI 1)], M)))))))) :
    mRun (mSx g) (f_X7_copy g) P (70, [some (.inr (some 0)), some (.inl s), some (.inl i), some (.inl q), some (.inl j), some (.inl n), some (.inr (some 42)), some (.inr (some 40))], [.inl b], M) := mRun.vc (m_X7_copy g) [82] 6 h

theorem v_copyF_42_40 (g : mG) (M : mM) (P : mP) (s i q j n : Int32) (b : Int32)
    (h : (¬ b = 0 → ∃ n2 n3 : Nat, (∃ ra, (mSx g)[43]? = some (0, n2, ra)) ∧ (∃ rb, (mSx g)[41]? = some (0, n3, rb)) ∧ ¬ i < 0 ∧ ¬ j < 0 ∧ ¬ n < 0 ∧ i.toNatClampNeg + n.toNatClampNeg ≤ n2 ∧ j.toNatClampNeg + n.toNatClampNeg ≤ n3 ∧ (let M6 : mM := mUp M 41 (va_cpy (M 43) (M 41) i.toNatClampNeg j.toNatClampNeg n.toNatClampNeg); P (some (.inl n)) M6)) ∧ (¬ (¬ b = 0) → P (some (.inl (-12))) M)) :
    mRun (mSx g) (f_X7_copy g) P (82, [some (.inr (some 0)), some (.inl s), some (.inl i), some (.inl q), some (.inl j), some (.inl n), some (.inr (some 42)), some (.inr (some 40))], [.inl b], M) := mRun.vc (m_X7_copy g) [] 11 h

theorem copy_run_42_40 (g : mG) (M : mM) (P : mP) (z : aZ) (i j n : Int32) (hR : RpC M z) (hI : zInv z) (hP : pubP M P (F_copy z [nI 1, i, nI 0, j, n])) :
    mRun (mSx g) (f_X7_copy g) P (12, [some (.inr (some 0)), some (.inl (nI 1)), some (.inl i), some (.inl (nI 0)), some (.inl j), some (.inl n), some (.inr (some 42)), none], [.inr (some 40)], M) := by
  have hc : F_copy z [nI 1, i, nI 0, j, n] = if (z.2.2.2 1).1 = -1 ∨ (z.2.2.2 0).1 = -1 then (-11, z) else if ¬ (z.2.2.2 1).1 = (z.2.2.2 0).1 then (-13, z) else if dHld (z.2.2.2 1).2.1 i n = true ∧ dHld (z.2.2.2 0).2.1 j n = true then (n, zS z 0 ((z.2.2.2 0).1, (z.2.2.2 0).2.1, va_cpy (z.2.2.2 1).2.2 (z.2.2.2 0).2.2 (ub i) (ub j) (ub n))) else (-12, z) := rfl
  rw [hc] at hP
  have hz1 := (hI.2.2.2 1 (by decide)).2.1
  have hz2 := (hI.2.2.2 0 (by decide)).2.1
  have hS1 := hR.2.2.2.2.1 1 (by decide)
  have hS2 := hR.2.2.2.2.1 0 (by decide)
  have a1 : M 42 1 = (z.2.2.2 1).1 := hS1.1
  have a2 : M 42 2 = nI (z.2.2.2 1).2.1 := hS1.2.1
  have b1 : M 40 1 = (z.2.2.2 0).1 := hS2.1
  have b2 : M 40 2 = nI (z.2.2.2 0).2.1 := hS2.2.1
  have stay : ∀ v w : Int32, v = w → pubP M P (w, z) → P (some (.inl v)) M := fun v w e h => h v M e hR FrC.refl
  have kF : ¬ ((z.2.2.2 1).1 = -1 ∨ (z.2.2.2 0).1 = -1) → (z.2.2.2 1).1 = (z.2.2.2 0).1 → dHld (z.2.2.2 1).2.1 i n = true → ∀ b, b = mb (dHld (z.2.2.2 0).2.1 j n = true) → mRun (mSx g) (f_X7_copy g) P (82, [some (.inr (some 0)), some (.inl (nI 1)), some (.inl i), some (.inl (nI 0)), some (.inl j), some (.inl n), some (.inr (some 42)), some (.inr (some 40))], [.inl b], M) := fun w1 w2 w3 b hb => by
    rw [if_neg w1, if_neg (fun y => y w2)] at hP
    refine v_copyF_42_40 g M P _ _ _ _ _ _ ?_
    rw [hb]
    by_cases h : dHld (z.2.2.2 0).2.1 j n = true
    · rw [if_pos ⟨w3, h⟩] at hP
      rw [mb_t h]
      refine ⟨fun _ => ?_, fun y => absurd (by decide) y⟩
      obtain ⟨a, m, rfl, rfl, ham⟩ := dHld_t hz1 w3
      obtain ⟨b, m', rfl, hm', hbm⟩ := dHld_t hz2 h
      have hlen : m ≤ 40 ∧ m' ≤ 40 := ⟨by omega, by omega⟩
      obtain rfl : m = m' := by
        have := congrArg Int32.toInt hm'
        rw [nI_toInt (by omega), nI_toInt (by omega)] at this
        omega
      rw [ub_nI (by omega), ub_nI (by omega), ub_nI (by omega)] at hP
      have ca : (nI a).toNatClampNeg = a := nI_clamp (by omega)
      have cb : (nI b).toNatClampNeg = b := nI_clamp (by omega)
      have cm : (nI m).toNatClampNeg = m := nI_clamp (by omega)
      refine ⟨40, 40, ⟨_, mSx_at rfl⟩, ⟨_, mSx_at rfl⟩, nI_pos (by omega), nI_pos (by omega), nI_pos (by omega), by rw [ca, cm]; omega, by rw [cb, cm]; omega, ?_⟩
      rw [ca, cb, cm]
      intro M2
      refine hP _ M2 rfl (RpC_sheet hR (by decide) ⟨?_, ?_, fun y hy => ?_⟩ (fun d h1 h2 => mUp_ne h2)) (fun d h1 => mUp_ne (by omega))
      · show mUp M 41 _ 40 1 = _
        rw [mUp_ne (by decide)]
        exact b1
      · show mUp M 41 _ 40 2 = _
        rw [mUp_ne (by decide)]
        exact b2
      · show mUp M 41 _ 41 y = shC (z.2.2.2 0).1 (va_cpy (z.2.2.2 1).2.2 (z.2.2.2 0).2.2 a b m y)
        rw [mUp_at]
        by_cases hy2 : b ≤ y ∧ y < b + m
        · rw [pk_cpy_in hy2.1 hy2.2, pk_cpy_in hy2.1 hy2.2, ← w2]
          exact hS1.2.2 _ (by omega)
        · rw [pk_cpy_out (by omega), pk_cpy_out (by omega)]
          exact hS2.2.2 y hy
    · rw [if_neg (fun y => h y.2)] at hP
      rw [mb_f h]
      exact ⟨fun y => absurd rfl y, fun _ => stay _ _ rfl hP⟩
  have kE : ¬ ((z.2.2.2 1).1 = -1 ∨ (z.2.2.2 0).1 = -1) → (z.2.2.2 1).1 = (z.2.2.2 0).1 → ∀ b, b = mb (dHld (z.2.2.2 1).2.1 i n = true) → mRun (mSx g) (f_X7_copy g) P (70, [some (.inr (some 0)), some (.inl (nI 1)), some (.inl i), some (.inl (nI 0)), some (.inl j), some (.inl n), some (.inr (some 42)), some (.inr (some 40))], [.inl b], M) := fun w1 w2 b hb => by
    refine v_copyE_42_40 g M P _ _ _ _ _ _ ?_
    rw [hb, b2]
    by_cases h : dHld (z.2.2.2 1).2.1 i n = true
    · rw [mb_t h]
      exact ⟨fun y => absurd y (by decide), fun _ => hold_cs b (A := True) (fun v => mRun (mSx g) (f_X7_copy g) P (82, [some (.inr (some 0)), some (.inl (nI 1)), some (.inl i), some (.inl (nI 0)), some (.inl j), some (.inl n), some (.inr (some 42)), some (.inr (some 40))], [.inl v], M)) (kF w1 w2 h) hz2⟩
    · rw [if_neg w1, if_neg (fun y => y w2), if_neg (fun y => h y.1)] at hP
      rw [mb_f h]
      exact ⟨fun _ => stay _ _ rfl hP, fun y => absurd rfl y⟩
  have kD : ¬ (z.2.2.2 1).1 = -1 → ∀ b, b = mb ((z.2.2.2 0).1 = -1) → mRun (mSx g) (f_X7_copy g) P (40, [some (.inr (some 0)), some (.inl (nI 1)), some (.inl i), some (.inl (nI 0)), some (.inl j), some (.inl n), some (.inr (some 42)), some (.inr (some 40))], [.inl b], M) := fun w1 b hb => by
    refine v_copyD_42_40 g M P _ _ _ _ _ _ ?_
    rw [hb, a1]
    try rw [b1]
    rw [a2]
    by_cases h : (z.2.2.2 0).1 = -1
    · rw [if_pos (Or.inr h)] at hP
      rw [mb_t h]
      exact ⟨fun y => absurd y (by decide), fun _ => stay _ _ rfl hP⟩
    · have w : ¬ ((z.2.2.2 1).1 = -1 ∨ (z.2.2.2 0).1 = -1) := fun y => y.elim w1 h
      rw [mb_f h]
      refine ⟨fun _ => ⟨fun w2 => hold_cs b (A := True) (fun v => mRun (mSx g) (f_X7_copy g) P (70, [some (.inr (some 0)), some (.inl (nI 1)), some (.inl i), some (.inl (nI 0)), some (.inl j), some (.inl n), some (.inr (some 42)), some (.inr (some 40))], [.inl v], M)) (kE w w2) hz1, fun w2 => ?_⟩, fun y => absurd rfl y⟩
      rw [if_neg w, if_pos w2] at hP
      exact stay _ _ rfl hP
  have kC : ∀ b, b = mb ((z.2.2.2 1).1 = -1) → mRun (mSx g) (f_X7_copy g) P (32, [some (.inr (some 0)), some (.inl (nI 1)), some (.inl i), some (.inl (nI 0)), some (.inl j), some (.inl n), some (.inr (some 42)), some (.inr (some 40))], [.inl b], M) := fun b hb => by
    refine v_copyC_42_40 g M P _ _ _ _ _ _ ?_
    rw [hb, b1]
    by_cases h : (z.2.2.2 1).1 = -1
    · rw [if_pos (Or.inl h)] at hP
      rw [mb_t h]
      exact ⟨fun _ => stay _ _ rfl hP, fun y => absurd (by decide) y⟩
    · rw [mb_f h]
      exact ⟨fun y => absurd rfl y, fun _ => ⟨fun w => ⟨Or.inl rfl, kD h _ (mb_f w).symm⟩, fun w => ⟨Or.inr rfl, kD h _ (mb_t (Classical.not_not.mp w)).symm⟩⟩⟩
  refine v_copyB_42_40 g M P _ _ _ _ _ ?_
  rw [a1]
  exact ⟨fun w => ⟨Or.inl rfl, kC _ (mb_f w).symm⟩, fun w => ⟨Or.inr rfl, kC _ (mb_t (Classical.not_not.mp w)).symm⟩⟩
theorem v_copyB_42_42 (g : mG) (M : mM) (P : mP) (s i q j n : Int32)
    (h : (¬ (M 42 1) = (-1) → ((nI 0) = 0 ∨ (nI 0) = 1) ∧ (mRun (mSx g) (f_X7_copy g) P (32, [some (.inr (some 0)), some (.inl s), some (.inl i), some (.inl q), some (.inl j), some (.inl n), some (.inr (some 42)), some (.inr (some 42))], [.inl (nI 0)], M))) ∧ (¬ (¬ (M 42 1) = (-1)) → ((nI 1) = 0 ∨ (nI 1) = 1) ∧ (mRun (mSx g) (f_X7_copy g) P (32, [some (.inr (some 0)), some (.inl s), some (.inl i), some (.inl q), some (.inl j), some (.inl n), some (.inr (some 42)), some (.inr (some 42))], [.inl (nI 1)], M)))) :
    mRun (mSx g) (f_X7_copy g) P (12, [some (.inr (some 0)), some (.inl s), some (.inl i), some (.inl q), some (.inl j), some (.inl n), some (.inr (some 42)), none], [.inr (some 42)], M) := mRun.vc (m_X7_copy g) [32] 8 h

theorem v_copyC_42_42 (g : mG) (M : mM) (P : mP) (s i q j n : Int32) (b : Int32)
    (h : (¬ b = 0 → P (some (.inl (-11))) M) ∧ (¬ (¬ b = 0) → (¬ (M 42 1) = (-1) → ((nI 0) = 0 ∨ (nI 0) = 1) ∧ (mRun (mSx g) (f_X7_copy g) P (40, [some (.inr (some 0)), some (.inl s), some (.inl i), some (.inl q), some (.inl j), some (.inl n), some (.inr (some 42)), some (.inr (some 42))], [.inl (nI 0)], M))) ∧ (¬ (¬ (M 42 1) = (-1)) → ((nI 1) = 0 ∨ (nI 1) = 1) ∧ (mRun (mSx g) (f_X7_copy g) P (40, [some (.inr (some 0)), some (.inl s), some (.inl i), some (.inl q), some (.inl j), some (.inl n), some (.inr (some 42)), some (.inr (some 42))], [.inl (nI 1)], M))))) :
    mRun (mSx g) (f_X7_copy g) P (32, [some (.inr (some 0)), some (.inl s), some (.inl i), some (.inl q), some (.inl j), some (.inl n), some (.inr (some 42)), some (.inr (some 42))], [.inl b], M) := mRun.vc (m_X7_copy g) [40] 4 h

theorem v_copyD_42_42 (g : mG) (M : mM) (P : mP) (s i q j n : Int32) (b : Int32)
    (h : (b = 0 → ((M 42 1) = (M 42 1) → (i < 0 → ((nI 0) = 0 ∨ (nI 0) = 1) ∧ (mRun (mSx g) (f_X7_copy g) P (70, [some (.inr (some 0)), some (.inl s), some (.inl i), some (.inl q), some (.inl j), some (.inl n), some (.inr (some 42)), some (.inr (some 42))], [.inl (nI 0)], M))) ∧ (¬ (i < 0) → (n < 0 → ((nI 0) = 0 ∨ (nI 0) = 1) ∧ (mRun (mSx g) (f_X7_copy g) P (70, [some (.inr (some 0)), some (.inl s), some (.inl i), some (.inl q), some (.inl j), some (.inl n), some (.inr (some 42)), some (.inr (some 42))], [.inl (nI 0)], M))) ∧ (¬ (n < 0) → ((M 42 2) < n → ((nI 0) = 0 ∨ (nI 0) = 1) ∧ (mRun (mSx g) (f_X7_copy g) P (70, [some (.inr (some 0)), some (.inl s), some (.inl i), some (.inl q), some (.inl j), some (.inl n), some (.inr (some 42)), some (.inr (some 42))], [.inl (nI 0)], M))) ∧ (¬ ((M 42 2) < n) → (((M 42 2) - n) < i → ((nI 0) = 0 ∨ (nI 0) = 1) ∧ (mRun (mSx g) (f_X7_copy g) P (70, [some (.inr (some 0)), some (.inl s), some (.inl i), some (.inl q), some (.inl j), some (.inl n), some (.inr (some 42)), some (.inr (some 42))], [.inl (nI 0)], M))) ∧ (¬ (((M 42 2) - n) < i) → ((nI 1) = 0 ∨ (nI 1) = 1) ∧ (mRun (mSx g) (f_X7_copy g) P (70, [some (.inr (some 0)), some (.inl s), some (.inl i), some (.inl q), some (.inl j), some (.inl n), some (.inr (some 42)), some (.inr (some 42))], [.inl (nI 1)], M))))))) ∧ (¬ ((M 42 1) = (M 42 1)) → P (some (.inl (-13))) M)) ∧ (¬ (b = 0) → P (some (.inl (-11))) M)) :
    mRun (mSx g) (f_X7_copy g) P (40, [some (.inr (some 0)), some (.inl s), some (.inl i), some (.inl q), some (.inl j), some (.inl n), some (.inr (some 42)), some (.inr (some 42))], [.inl b], M) := mRun.vc (m_X7_copy g) [70] 11 h

theorem v_copyE_42_42 (g : mG) (M : mM) (P : mP) (s i q j n : Int32) (b : Int32)
    (h : (b = 0 → P (some (.inl (-12))) M) ∧ (¬ (b = 0) → (j < 0 → ((nI 0) = 0 ∨ (nI 0) = 1) ∧ (mRun (mSx g) (f_X7_copy g) P (82, [some (.inr (some 0)), some (.inl s), some (.inl i), some (.inl q), some (.inl j), some (.inl n), some (.inr (some 42)), some (.inr (some 42))], [.inl (nI 0)], M))) ∧ (¬ (j < 0) → (n < 0 → ((nI 0) = 0 ∨ (nI 0) = 1) ∧ (mRun (mSx g) (f_X7_copy g) P (82, [some (.inr (some 0)), some (.inl s), some (.inl i), some (.inl q), some (.inl j), some (.inl n), some (.inr (some 42)), some (.inr (some 42))], [.inl (nI 0)], M))) ∧ (¬ (n < 0) → ((M 42 2) < n → ((nI 0) = 0 ∨ (nI 0) = 1) ∧ (mRun (mSx g) (f_X7_copy g) P (82, [some (.inr (some 0)), some (.inl s), some (.inl i), some (.inl q), some (.inl j), some (.inl n), some (.inr (some 42)), some (.inr (some 42))], [.inl (nI 0)], M))) ∧ (¬ ((M 42 2) < n) → (((M 42 2) - n) < j → ((nI 0) = 0 ∨ (nI 0) = 1) ∧ (mRun (mSx g) (f_X7_copy g) P (82, [some (.inr (some 0)), some (.inl s), some (.inl i), some (.inl q), some (.inl j), some (.inl n), some (.inr (some 42)), some (.inr (some 42))], [.inl (nI 0)], M))) ∧ (¬ (((M 42 2) - n) < j) → ((nI 1) = 0 ∨ (nI 1) = 1) ∧ (mRun (mSx g) (f_X7_copy g) P (82, [some (.inr (some 0)), some (.inl s), some (.inl i), some (.inl q), some (.inl j), some (.inl n), some (.inr (some 42)), some (.inr (some 42))], [.inl (nI 1)], M)))))))) :
    mRun (mSx g) (f_X7_copy g) P (70, [some (.inr (some 0)), some (.inl s), some (.inl i), some (.inl q), some (.inl j), some (.inl n), some (.inr (some 42)), some (.inr (some 42))], [.inl b], M) := mRun.vc (m_X7_copy g) [82] 6 h

theorem v_copyF_42_42 (g : mG) (M : mM) (P : mP) (s i q j n : Int32) (b : Int32)
    (h : (¬ b = 0 → ∃ n2 n3 : Nat, (∃ ra, (mSx g)[43]? = some (0, n2, ra)) ∧ (∃ rb, (mSx g)[43]? = some (0, n3, rb)) ∧ ¬ i < 0 ∧ ¬ j < 0 ∧ ¬ n < 0 ∧ i.toNatClampNeg + n.toNatClampNeg ≤ n2 ∧ j.toNatClampNeg + n.toNatClampNeg ≤ n3 ∧ (let M6 : mM := mUp M 43 (va_cpy (M 43) (M 43) i.toNatClampNeg j.toNatClampNeg n.toNatClampNeg); P (some (.inl n)) M6)) ∧ (¬ (¬ b = 0) → P (some (.inl (-12))) M)) :
    mRun (mSx g) (f_X7_copy g) P (82, [some (.inr (some 0)), some (.inl s), some (.inl i), some (.inl q), some (.inl j), some (.inl n), some (.inr (some 42)), some (.inr (some 42))], [.inl b], M) := mRun.vc (m_X7_copy g) [] 11 h

theorem copy_run_42_42 (g : mG) (M : mM) (P : mP) (z : aZ) (i j n : Int32) (hR : RpC M z) (hI : zInv z) (hP : pubP M P (F_copy z [nI 1, i, nI 1, j, n])) :
    mRun (mSx g) (f_X7_copy g) P (12, [some (.inr (some 0)), some (.inl (nI 1)), some (.inl i), some (.inl (nI 1)), some (.inl j), some (.inl n), some (.inr (some 42)), none], [.inr (some 42)], M) := by
  have hc : F_copy z [nI 1, i, nI 1, j, n] = if (z.2.2.2 1).1 = -1 ∨ (z.2.2.2 1).1 = -1 then (-11, z) else if ¬ (z.2.2.2 1).1 = (z.2.2.2 1).1 then (-13, z) else if dHld (z.2.2.2 1).2.1 i n = true ∧ dHld (z.2.2.2 1).2.1 j n = true then (n, zS z 1 ((z.2.2.2 1).1, (z.2.2.2 1).2.1, va_cpy (z.2.2.2 1).2.2 (z.2.2.2 1).2.2 (ub i) (ub j) (ub n))) else (-12, z) := rfl
  rw [hc] at hP
  have hz1 := (hI.2.2.2 1 (by decide)).2.1
  have hz2 := (hI.2.2.2 1 (by decide)).2.1
  have hS1 := hR.2.2.2.2.1 1 (by decide)
  have hS2 := hR.2.2.2.2.1 1 (by decide)
  have a1 : M 42 1 = (z.2.2.2 1).1 := hS1.1
  have a2 : M 42 2 = nI (z.2.2.2 1).2.1 := hS1.2.1
  have b1 : M 42 1 = (z.2.2.2 1).1 := hS2.1
  have b2 : M 42 2 = nI (z.2.2.2 1).2.1 := hS2.2.1
  have stay : ∀ v w : Int32, v = w → pubP M P (w, z) → P (some (.inl v)) M := fun v w e h => h v M e hR FrC.refl
  have kF : ¬ ((z.2.2.2 1).1 = -1 ∨ (z.2.2.2 1).1 = -1) → (z.2.2.2 1).1 = (z.2.2.2 1).1 → dHld (z.2.2.2 1).2.1 i n = true → ∀ b, b = mb (dHld (z.2.2.2 1).2.1 j n = true) → mRun (mSx g) (f_X7_copy g) P (82, [some (.inr (some 0)), some (.inl (nI 1)), some (.inl i), some (.inl (nI 1)), some (.inl j), some (.inl n), some (.inr (some 42)), some (.inr (some 42))], [.inl b], M) := fun w1 w2 w3 b hb => by
    rw [if_neg w1, if_neg (fun y => y w2)] at hP
    refine v_copyF_42_42 g M P _ _ _ _ _ _ ?_
    rw [hb]
    by_cases h : dHld (z.2.2.2 1).2.1 j n = true
    · rw [if_pos ⟨w3, h⟩] at hP
      rw [mb_t h]
      refine ⟨fun _ => ?_, fun y => absurd (by decide) y⟩
      obtain ⟨a, m, rfl, rfl, ham⟩ := dHld_t hz1 w3
      obtain ⟨b, m', rfl, hm', hbm⟩ := dHld_t hz2 h
      have hlen : m ≤ 40 ∧ m' ≤ 40 := ⟨by omega, by omega⟩
      obtain rfl : m = m' := by
        have := congrArg Int32.toInt hm'
        rw [nI_toInt (by omega), nI_toInt (by omega)] at this
        omega
      rw [ub_nI (by omega), ub_nI (by omega), ub_nI (by omega)] at hP
      have ca : (nI a).toNatClampNeg = a := nI_clamp (by omega)
      have cb : (nI b).toNatClampNeg = b := nI_clamp (by omega)
      have cm : (nI m).toNatClampNeg = m := nI_clamp (by omega)
      refine ⟨40, 40, ⟨_, mSx_at rfl⟩, ⟨_, mSx_at rfl⟩, nI_pos (by omega), nI_pos (by omega), nI_pos (by omega), by rw [ca, cm]; omega, by rw [cb, cm]; omega, ?_⟩
      rw [ca, cb, cm]
      intro M2
      refine hP _ M2 rfl (RpC_sheet hR (by decide) ⟨?_, ?_, fun y hy => ?_⟩ (fun d h1 h2 => mUp_ne h2)) (fun d h1 => mUp_ne (by omega))
      · show mUp M 43 _ 42 1 = _
        rw [mUp_ne (by decide)]
        exact b1
      · show mUp M 43 _ 42 2 = _
        rw [mUp_ne (by decide)]
        exact b2
      · show mUp M 43 _ 43 y = shC (z.2.2.2 1).1 (va_cpy (z.2.2.2 1).2.2 (z.2.2.2 1).2.2 a b m y)
        rw [mUp_at]
        by_cases hy2 : b ≤ y ∧ y < b + m
        · rw [pk_cpy_in hy2.1 hy2.2, pk_cpy_in hy2.1 hy2.2, ← w2]
          exact hS1.2.2 _ (by omega)
        · rw [pk_cpy_out (by omega), pk_cpy_out (by omega)]
          exact hS2.2.2 y hy
    · rw [if_neg (fun y => h y.2)] at hP
      rw [mb_f h]
      exact ⟨fun y => absurd rfl y, fun _ => stay _ _ rfl hP⟩
  have kE : ¬ ((z.2.2.2 1).1 = -1 ∨ (z.2.2.2 1).1 = -1) → (z.2.2.2 1).1 = (z.2.2.2 1).1 → ∀ b, b = mb (dHld (z.2.2.2 1).2.1 i n = true) → mRun (mSx g) (f_X7_copy g) P (70, [some (.inr (some 0)), some (.inl (nI 1)), some (.inl i), some (.inl (nI 1)), some (.inl j), some (.inl n), some (.inr (some 42)), some (.inr (some 42))], [.inl b], M) := fun w1 w2 b hb => by
    refine v_copyE_42_42 g M P _ _ _ _ _ _ ?_
    rw [hb, b2]
    by_cases h : dHld (z.2.2.2 1).2.1 i n = true
    · rw [mb_t h]
      exact ⟨fun y => absurd y (by decide), fun _ => hold_cs b (A := True) (fun v => mRun (mSx g) (f_X7_copy g) P (82, [some (.inr (some 0)), some (.inl (nI 1)), some (.inl i), some (.inl (nI 1)), some (.inl j), some (.inl n), some (.inr (some 42)), some (.inr (some 42))], [.inl v], M)) (kF w1 w2 h) hz2⟩
    · rw [if_neg w1, if_neg (fun y => y w2), if_neg (fun y => h y.1)] at hP
      rw [mb_f h]
      exact ⟨fun _ => stay _ _ rfl hP, fun y => absurd rfl y⟩
  have kD : ¬ (z.2.2.2 1).1 = -1 → ∀ b, b = mb ((z.2.2.2 1).1 = -1) → mRun (mSx g) (f_X7_copy g) P (40, [some (.inr (some 0)), some (.inl (nI 1)), some (.inl i), some (.inl (nI 1)), some (.inl j), some (.inl n), some (.inr (some 42)), some (.inr (some 42))], [.inl b], M) := fun w1 b hb => by
    refine v_copyD_42_42 g M P _ _ _ _ _ _ ?_
    rw [hb, a1]
    try rw [b1]
    rw [a2]
    by_cases h : (z.2.2.2 1).1 = -1
    · rw [if_pos (Or.inr h)] at hP
      rw [mb_t h]
      exact ⟨fun y => absurd y (by decide), fun _ => stay _ _ rfl hP⟩
    · have w : ¬ ((z.2.2.2 1).1 = -1 ∨ (z.2.2.2 1).1 = -1) := fun y => y.elim w1 h
      rw [mb_f h]
      refine ⟨fun _ => ⟨fun w2 => hold_cs b (A := True) (fun v => mRun (mSx g) (f_X7_copy g) P (70, [some (.inr (some 0)), some (.inl (nI 1)), some (.inl i), some (.inl (nI 1)), some (.inl j), some (.inl n), some (.inr (some 42)), some (.inr (some 42))], [.inl v], M)) (kE w w2) hz1, fun w2 => ?_⟩, fun y => absurd rfl y⟩
      rw [if_neg w, if_pos w2] at hP
      exact stay _ _ rfl hP
  have kC : ∀ b, b = mb ((z.2.2.2 1).1 = -1) → mRun (mSx g) (f_X7_copy g) P (32, [some (.inr (some 0)), some (.inl (nI 1)), some (.inl i), some (.inl (nI 1)), some (.inl j), some (.inl n), some (.inr (some 42)), some (.inr (some 42))], [.inl b], M) := fun b hb => by
    refine v_copyC_42_42 g M P _ _ _ _ _ _ ?_
    rw [hb, b1]
    by_cases h : (z.2.2.2 1).1 = -1
    · rw [if_pos (Or.inl h)] at hP
      rw [mb_t h]
      exact ⟨fun _ => stay _ _ rfl hP, fun y => absurd (by decide) y⟩
    · rw [mb_f h]
      exact ⟨fun y => absurd rfl y, fun _ => ⟨fun w => ⟨Or.inl rfl, kD h _ (mb_f w).symm⟩, fun w => ⟨Or.inr rfl, kD h _ (mb_t (Classical.not_not.mp w)).symm⟩⟩⟩
  refine v_copyB_42_42 g M P _ _ _ _ _ ?_
  rw [a1]
  exact ⟨fun w => ⟨Or.inl rfl, kC _ (mb_f w).symm⟩, fun w => ⟨Or.inr rfl, kC _ (mb_t (Classical.not_not.mp w)).symm⟩⟩
theorem v_copyB_42_44 (g : mG) (M : mM) (P : mP) (s i q j n : Int32)
    (h : (¬ (M 42 1) = (-1) → ((nI 0) = 0 ∨ (nI 0) = 1) ∧ (mRun (mSx g) (f_X7_copy g) P (32, [some (.inr (some 0)), some (.inl s), some (.inl i), some (.inl q), some (.inl j), some (.inl n), some (.inr (some 42)), some (.inr (some 44))], [.inl (nI 0)], M))) ∧ (¬ (¬ (M 42 1) = (-1)) → ((nI 1) = 0 ∨ (nI 1) = 1) ∧ (mRun (mSx g) (f_X7_copy g) P (32, [some (.inr (some 0)), some (.inl s), some (.inl i), some (.inl q), some (.inl j), some (.inl n), some (.inr (some 42)), some (.inr (some 44))], [.inl (nI 1)], M)))) :
    mRun (mSx g) (f_X7_copy g) P (12, [some (.inr (some 0)), some (.inl s), some (.inl i), some (.inl q), some (.inl j), some (.inl n), some (.inr (some 42)), none], [.inr (some 44)], M) := mRun.vc (m_X7_copy g) [32] 8 h

theorem v_copyC_42_44 (g : mG) (M : mM) (P : mP) (s i q j n : Int32) (b : Int32)
    (h : (¬ b = 0 → P (some (.inl (-11))) M) ∧ (¬ (¬ b = 0) → (¬ (M 44 1) = (-1) → ((nI 0) = 0 ∨ (nI 0) = 1) ∧ (mRun (mSx g) (f_X7_copy g) P (40, [some (.inr (some 0)), some (.inl s), some (.inl i), some (.inl q), some (.inl j), some (.inl n), some (.inr (some 42)), some (.inr (some 44))], [.inl (nI 0)], M))) ∧ (¬ (¬ (M 44 1) = (-1)) → ((nI 1) = 0 ∨ (nI 1) = 1) ∧ (mRun (mSx g) (f_X7_copy g) P (40, [some (.inr (some 0)), some (.inl s), some (.inl i), some (.inl q), some (.inl j), some (.inl n), some (.inr (some 42)), some (.inr (some 44))], [.inl (nI 1)], M))))) :
    mRun (mSx g) (f_X7_copy g) P (32, [some (.inr (some 0)), some (.inl s), some (.inl i), some (.inl q), some (.inl j), some (.inl n), some (.inr (some 42)), some (.inr (some 44))], [.inl b], M) := mRun.vc (m_X7_copy g) [40] 4 h

theorem v_copyD_42_44 (g : mG) (M : mM) (P : mP) (s i q j n : Int32) (b : Int32)
    (h : (b = 0 → ((M 42 1) = (M 44 1) → (i < 0 → ((nI 0) = 0 ∨ (nI 0) = 1) ∧ (mRun (mSx g) (f_X7_copy g) P (70, [some (.inr (some 0)), some (.inl s), some (.inl i), some (.inl q), some (.inl j), some (.inl n), some (.inr (some 42)), some (.inr (some 44))], [.inl (nI 0)], M))) ∧ (¬ (i < 0) → (n < 0 → ((nI 0) = 0 ∨ (nI 0) = 1) ∧ (mRun (mSx g) (f_X7_copy g) P (70, [some (.inr (some 0)), some (.inl s), some (.inl i), some (.inl q), some (.inl j), some (.inl n), some (.inr (some 42)), some (.inr (some 44))], [.inl (nI 0)], M))) ∧ (¬ (n < 0) → ((M 42 2) < n → ((nI 0) = 0 ∨ (nI 0) = 1) ∧ (mRun (mSx g) (f_X7_copy g) P (70, [some (.inr (some 0)), some (.inl s), some (.inl i), some (.inl q), some (.inl j), some (.inl n), some (.inr (some 42)), some (.inr (some 44))], [.inl (nI 0)], M))) ∧ (¬ ((M 42 2) < n) → (((M 42 2) - n) < i → ((nI 0) = 0 ∨ (nI 0) = 1) ∧ (mRun (mSx g) (f_X7_copy g) P (70, [some (.inr (some 0)), some (.inl s), some (.inl i), some (.inl q), some (.inl j), some (.inl n), some (.inr (some 42)), some (.inr (some 44))], [.inl (nI 0)], M))) ∧ (¬ (((M 42 2) - n) < i) → ((nI 1) = 0 ∨ (nI 1) = 1) ∧ (mRun (mSx g) (f_X7_copy g) P (70, [some (.inr (some 0)), some (.inl s), some (.inl i), some (.inl q), some (.inl j), some (.inl n), some (.inr (some 42)), some (.inr (some 44))], [.inl (nI 1)], M))))))) ∧ (¬ ((M 42 1) = (M 44 1)) → P (some (.inl (-13))) M)) ∧ (¬ (b = 0) → P (some (.inl (-11))) M)) :
    mRun (mSx g) (f_X7_copy g) P (40, [some (.inr (some 0)), some (.inl s), some (.inl i), some (.inl q), some (.inl j), some (.inl n), some (.inr (some 42)), some (.inr (some 44))], [.inl b], M) := mRun.vc (m_X7_copy g) [70] 11 h

theorem v_copyE_42_44 (g : mG) (M : mM) (P : mP) (s i q j n : Int32) (b : Int32)
    (h : (b = 0 → P (some (.inl (-12))) M) ∧ (¬ (b = 0) → (j < 0 → ((nI 0) = 0 ∨ (nI 0) = 1) ∧ (mRun (mSx g) (f_X7_copy g) P (82, [some (.inr (some 0)), some (.inl s), some (.inl i), some (.inl q), some (.inl j), some (.inl n), some (.inr (some 42)), some (.inr (some 44))], [.inl (nI 0)], M))) ∧ (¬ (j < 0) → (n < 0 → ((nI 0) = 0 ∨ (nI 0) = 1) ∧ (mRun (mSx g) (f_X7_copy g) P (82, [some (.inr (some 0)), some (.inl s), some (.inl i), some (.inl q), some (.inl j), some (.inl n), some (.inr (some 42)), some (.inr (some 44))], [.inl (nI 0)], M))) ∧ (¬ (n < 0) → ((M 44 2) < n → ((nI 0) = 0 ∨ (nI 0) = 1) ∧ (mRun (mSx g) (f_X7_copy g) P (82, [some (.inr (some 0)), some (.inl s), some (.inl i), some (.inl q), some (.inl j), some (.inl n), some (.inr (some 42)), some (.inr (some 44))], [.inl (nI 0)], M))) ∧ (¬ ((M 44 2) < n) → (((M 44 2) - n) < j → ((nI 0) = 0 ∨ (nI 0) = 1) ∧ (mRun (mSx g) (f_X7_copy g) P (82, [some (.inr (some 0)), some (.inl s), some (.inl i), some (.inl q), some (.inl j), some (.inl n), some (.inr (some 42)), some (.inr (some 44))], [.inl (nI 0)], M))) ∧ (¬ (((M 44 2) - n) < j) → ((nI 1) = 0 ∨ (nI 1) = 1) ∧ (mRun (mSx g) (f_X7_copy g) P (82, [some (.inr (some 0)), some (.inl s), some (.inl i), some (.inl q), some (.inl j), some (.inl n), some (.inr (some 42)), some (.inr (some 44))], [.inl (nI 1)], M)))))))) :
    mRun (mSx g) (f_X7_copy g) P (70, [some (.inr (some 0)), some (.inl s), some (.inl i), some (.inl q), some (.inl j), some (.inl n), some (.inr (some 42)), some (.inr (some 44))], [.inl b], M) := mRun.vc (m_X7_copy g) [82] 6 h

theorem v_copyF_42_44 (g : mG) (M : mM) (P : mP) (s i q j n : Int32) (b : Int32)
    (h : (¬ b = 0 → ∃ n2 n3 : Nat, (∃ ra, (mSx g)[43]? = some (0, n2, ra)) ∧ (∃ rb, (mSx g)[45]? = some (0, n3, rb)) ∧ ¬ i < 0 ∧ ¬ j < 0 ∧ ¬ n < 0 ∧ i.toNatClampNeg + n.toNatClampNeg ≤ n2 ∧ j.toNatClampNeg + n.toNatClampNeg ≤ n3 ∧ (let M6 : mM := mUp M 45 (va_cpy (M 43) (M 45) i.toNatClampNeg j.toNatClampNeg n.toNatClampNeg); P (some (.inl n)) M6)) ∧ (¬ (¬ b = 0) → P (some (.inl (-12))) M)) :
    mRun (mSx g) (f_X7_copy g) P (82, [some (.inr (some 0)), some (.inl s), some (.inl i), some (.inl q), some (.inl j), some (.inl n), some (.inr (some 42)), some (.inr (some 44))], [.inl b], M) := mRun.vc (m_X7_copy g) [] 11 h

theorem copy_run_42_44 (g : mG) (M : mM) (P : mP) (z : aZ) (i j n : Int32) (hR : RpC M z) (hI : zInv z) (hP : pubP M P (F_copy z [nI 1, i, nI 2, j, n])) :
    mRun (mSx g) (f_X7_copy g) P (12, [some (.inr (some 0)), some (.inl (nI 1)), some (.inl i), some (.inl (nI 2)), some (.inl j), some (.inl n), some (.inr (some 42)), none], [.inr (some 44)], M) := by
  have hc : F_copy z [nI 1, i, nI 2, j, n] = if (z.2.2.2 1).1 = -1 ∨ (z.2.2.2 2).1 = -1 then (-11, z) else if ¬ (z.2.2.2 1).1 = (z.2.2.2 2).1 then (-13, z) else if dHld (z.2.2.2 1).2.1 i n = true ∧ dHld (z.2.2.2 2).2.1 j n = true then (n, zS z 2 ((z.2.2.2 2).1, (z.2.2.2 2).2.1, va_cpy (z.2.2.2 1).2.2 (z.2.2.2 2).2.2 (ub i) (ub j) (ub n))) else (-12, z) := rfl
  rw [hc] at hP
  have hz1 := (hI.2.2.2 1 (by decide)).2.1
  have hz2 := (hI.2.2.2 2 (by decide)).2.1
  have hS1 := hR.2.2.2.2.1 1 (by decide)
  have hS2 := hR.2.2.2.2.1 2 (by decide)
  have a1 : M 42 1 = (z.2.2.2 1).1 := hS1.1
  have a2 : M 42 2 = nI (z.2.2.2 1).2.1 := hS1.2.1
  have b1 : M 44 1 = (z.2.2.2 2).1 := hS2.1
  have b2 : M 44 2 = nI (z.2.2.2 2).2.1 := hS2.2.1
  have stay : ∀ v w : Int32, v = w → pubP M P (w, z) → P (some (.inl v)) M := fun v w e h => h v M e hR FrC.refl
  have kF : ¬ ((z.2.2.2 1).1 = -1 ∨ (z.2.2.2 2).1 = -1) → (z.2.2.2 1).1 = (z.2.2.2 2).1 → dHld (z.2.2.2 1).2.1 i n = true → ∀ b, b = mb (dHld (z.2.2.2 2).2.1 j n = true) → mRun (mSx g) (f_X7_copy g) P (82, [some (.inr (some 0)), some (.inl (nI 1)), some (.inl i), some (.inl (nI 2)), some (.inl j), some (.inl n), some (.inr (some 42)), some (.inr (some 44))], [.inl b], M) := fun w1 w2 w3 b hb => by
    rw [if_neg w1, if_neg (fun y => y w2)] at hP
    refine v_copyF_42_44 g M P _ _ _ _ _ _ ?_
    rw [hb]
    by_cases h : dHld (z.2.2.2 2).2.1 j n = true
    · rw [if_pos ⟨w3, h⟩] at hP
      rw [mb_t h]
      refine ⟨fun _ => ?_, fun y => absurd (by decide) y⟩
      obtain ⟨a, m, rfl, rfl, ham⟩ := dHld_t hz1 w3
      obtain ⟨b, m', rfl, hm', hbm⟩ := dHld_t hz2 h
      have hlen : m ≤ 40 ∧ m' ≤ 40 := ⟨by omega, by omega⟩
      obtain rfl : m = m' := by
        have := congrArg Int32.toInt hm'
        rw [nI_toInt (by omega), nI_toInt (by omega)] at this
        omega
      rw [ub_nI (by omega), ub_nI (by omega), ub_nI (by omega)] at hP
      have ca : (nI a).toNatClampNeg = a := nI_clamp (by omega)
      have cb : (nI b).toNatClampNeg = b := nI_clamp (by omega)
      have cm : (nI m).toNatClampNeg = m := nI_clamp (by omega)
      refine ⟨40, 40, ⟨_, mSx_at rfl⟩, ⟨_, mSx_at rfl⟩, nI_pos (by omega), nI_pos (by omega), nI_pos (by omega), by rw [ca, cm]; omega, by rw [cb, cm]; omega, ?_⟩
      rw [ca, cb, cm]
      intro M2
      refine hP _ M2 rfl (RpC_sheet hR (by decide) ⟨?_, ?_, fun y hy => ?_⟩ (fun d h1 h2 => mUp_ne h2)) (fun d h1 => mUp_ne (by omega))
      · show mUp M 45 _ 44 1 = _
        rw [mUp_ne (by decide)]
        exact b1
      · show mUp M 45 _ 44 2 = _
        rw [mUp_ne (by decide)]
        exact b2
      · show mUp M 45 _ 45 y = shC (z.2.2.2 2).1 (va_cpy (z.2.2.2 1).2.2 (z.2.2.2 2).2.2 a b m y)
        rw [mUp_at]
        by_cases hy2 : b ≤ y ∧ y < b + m
        · rw [pk_cpy_in hy2.1 hy2.2, pk_cpy_in hy2.1 hy2.2, ← w2]
          exact hS1.2.2 _ (by omega)
        · rw [pk_cpy_out (by omega), pk_cpy_out (by omega)]
          exact hS2.2.2 y hy
    · rw [if_neg (fun y => h y.2)] at hP
      rw [mb_f h]
      exact ⟨fun y => absurd rfl y, fun _ => stay _ _ rfl hP⟩
  have kE : ¬ ((z.2.2.2 1).1 = -1 ∨ (z.2.2.2 2).1 = -1) → (z.2.2.2 1).1 = (z.2.2.2 2).1 → ∀ b, b = mb (dHld (z.2.2.2 1).2.1 i n = true) → mRun (mSx g) (f_X7_copy g) P (70, [some (.inr (some 0)), some (.inl (nI 1)), some (.inl i), some (.inl (nI 2)), some (.inl j), some (.inl n), some (.inr (some 42)), some (.inr (some 44))], [.inl b], M) := fun w1 w2 b hb => by
    refine v_copyE_42_44 g M P _ _ _ _ _ _ ?_
    rw [hb, b2]
    by_cases h : dHld (z.2.2.2 1).2.1 i n = true
    · rw [mb_t h]
      exact ⟨fun y => absurd y (by decide), fun _ => hold_cs b (A := True) (fun v => mRun (mSx g) (f_X7_copy g) P (82, [some (.inr (some 0)), some (.inl (nI 1)), some (.inl i), some (.inl (nI 2)), some (.inl j), some (.inl n), some (.inr (some 42)), some (.inr (some 44))], [.inl v], M)) (kF w1 w2 h) hz2⟩
    · rw [if_neg w1, if_neg (fun y => y w2), if_neg (fun y => h y.1)] at hP
      rw [mb_f h]
      exact ⟨fun _ => stay _ _ rfl hP, fun y => absurd rfl y⟩
  have kD : ¬ (z.2.2.2 1).1 = -1 → ∀ b, b = mb ((z.2.2.2 2).1 = -1) → mRun (mSx g) (f_X7_copy g) P (40, [some (.inr (some 0)), some (.inl (nI 1)), some (.inl i), some (.inl (nI 2)), some (.inl j), some (.inl n), some (.inr (some 42)), some (.inr (some 44))], [.inl b], M) := fun w1 b hb => by
    refine v_copyD_42_44 g M P _ _ _ _ _ _ ?_
    rw [hb, a1]
    try rw [b1]
    rw [a2]
    by_cases h : (z.2.2.2 2).1 = -1
    · rw [if_pos (Or.inr h)] at hP
      rw [mb_t h]
      exact ⟨fun y => absurd y (by decide), fun _ => stay _ _ rfl hP⟩
    · have w : ¬ ((z.2.2.2 1).1 = -1 ∨ (z.2.2.2 2).1 = -1) := fun y => y.elim w1 h
      rw [mb_f h]
      refine ⟨fun _ => ⟨fun w2 => hold_cs b (A := True) (fun v => mRun (mSx g) (f_X7_copy g) P (70, [some (.inr (some 0)), some (.inl (nI 1)), some (.inl i), some (.inl (nI 2)), some (.inl j), some (.inl n), some (.inr (some 42)), some (.inr (some 44))], [.inl v], M)) (kE w w2) hz1, fun w2 => ?_⟩, fun y => absurd rfl y⟩
      rw [if_neg w, if_pos w2] at hP
      exact stay _ _ rfl hP
  have kC : ∀ b, b = mb ((z.2.2.2 1).1 = -1) → mRun (mSx g) (f_X7_copy g) P (32, [some (.inr (some 0)), some (.inl (nI 1)), some (.inl i), some (.inl (nI 2)), some (.inl j), some (.inl n), some (.inr (some 42)), some (.inr (some 44))], [.inl b], M) := fun b hb => by
    refine v_copyC_42_44 g M P _ _ _ _ _ _ ?_
    rw [hb, b1]
    by_cases h : (z.2.2.2 1).1 = -1
    · rw [if_pos (Or.inl h)] at hP
      rw [mb_t h]
      exact ⟨fun _ => stay _ _ rfl hP, fun y => absurd (by decide) y⟩
    · rw [mb_f h]
      exact ⟨fun y => absurd rfl y, fun _ => ⟨fun w => ⟨Or.inl rfl, kD h _ (mb_f w).symm⟩, fun w => ⟨Or.inr rfl, kD h _ (mb_t (Classical.not_not.mp w)).symm⟩⟩⟩
  refine v_copyB_42_44 g M P _ _ _ _ _ ?_
  rw [a1]
  exact ⟨fun w => ⟨Or.inl rfl, kC _ (mb_f w).symm⟩, fun w => ⟨Or.inr rfl, kC _ (mb_t (Classical.not_not.mp w)).symm⟩⟩
theorem v_copyB_42_46 (g : mG) (M : mM) (P : mP) (s i q j n : Int32)
    (h : (¬ (M 42 1) = (-1) → ((nI 0) = 0 ∨ (nI 0) = 1) ∧ (mRun (mSx g) (f_X7_copy g) P (32, [some (.inr (some 0)), some (.inl s), some (.inl i), some (.inl q), some (.inl j), some (.inl n), some (.inr (some 42)), some (.inr (some 46))], [.inl (nI 0)], M))) ∧ (¬ (¬ (M 42 1) = (-1)) → ((nI 1) = 0 ∨ (nI 1) = 1) ∧ (mRun (mSx g) (f_X7_copy g) P (32, [some (.inr (some 0)), some (.inl s), some (.inl i), some (.inl q), some (.inl j), some (.inl n), some (.inr (some 42)), some (.inr (some 46))], [.inl (nI 1)], M)))) :
    mRun (mSx g) (f_X7_copy g) P (12, [some (.inr (some 0)), some (.inl s), some (.inl i), some (.inl q), some (.inl j), some (.inl n), some (.inr (some 42)), none], [.inr (some 46)], M) := mRun.vc (m_X7_copy g) [32] 8 h

theorem v_copyC_42_46 (g : mG) (M : mM) (P : mP) (s i q j n : Int32) (b : Int32)
    (h : (¬ b = 0 → P (some (.inl (-11))) M) ∧ (¬ (¬ b = 0) → (¬ (M 46 1) = (-1) → ((nI 0) = 0 ∨ (nI 0) = 1) ∧ (mRun (mSx g) (f_X7_copy g) P (40, [some (.inr (some 0)), some (.inl s), some (.inl i), some (.inl q), some (.inl j), some (.inl n), some (.inr (some 42)), some (.inr (some 46))], [.inl (nI 0)], M))) ∧ (¬ (¬ (M 46 1) = (-1)) → ((nI 1) = 0 ∨ (nI 1) = 1) ∧ (mRun (mSx g) (f_X7_copy g) P (40, [some (.inr (some 0)), some (.inl s), some (.inl i), some (.inl q), some (.inl j), some (.inl n), some (.inr (some 42)), some (.inr (some 46))], [.inl (nI 1)], M))))) :
    mRun (mSx g) (f_X7_copy g) P (32, [some (.inr (some 0)), some (.inl s), some (.inl i), some (.inl q), some (.inl j), some (.inl n), some (.inr (some 42)), some (.inr (some 46))], [.inl b], M) := mRun.vc (m_X7_copy g) [40] 4 h

theorem v_copyD_42_46 (g : mG) (M : mM) (P : mP) (s i q j n : Int32) (b : Int32)
    (h : (b = 0 → ((M 42 1) = (M 46 1) → (i < 0 → ((nI 0) = 0 ∨ (nI 0) = 1) ∧ (mRun (mSx g) (f_X7_copy g) P (70, [some (.inr (some 0)), some (.inl s), some (.inl i), some (.inl q), some (.inl j), some (.inl n), some (.inr (some 42)), some (.inr (some 46))], [.inl (nI 0)], M))) ∧ (¬ (i < 0) → (n < 0 → ((nI 0) = 0 ∨ (nI 0) = 1) ∧ (mRun (mSx g) (f_X7_copy g) P (70, [some (.inr (some 0)), some (.inl s), some (.inl i), some (.inl q), some (.inl j), some (.inl n), some (.inr (some 42)), some (.inr (some 46))], [.inl (nI 0)], M))) ∧ (¬ (n < 0) → ((M 42 2) < n → ((nI 0) = 0 ∨ (nI 0) = 1) ∧ (mRun (mSx g) (f_X7_copy g) P (70, [some (.inr (some 0)), some (.inl s), some (.inl i), some (.inl q), some (.inl j), some (.inl n), some (.inr (some 42)), some (.inr (some 46))], [.inl (nI 0)], M))) ∧ (¬ ((M 42 2) < n) → (((M 42 2) - n) < i → ((nI 0) = 0 ∨ (nI 0) = 1) ∧ (mRun (mSx g) (f_X7_copy g) P (70, [some (.inr (some 0)), some (.inl s), some (.inl i), some (.inl q), some (.inl j), some (.inl n), some (.inr (some 42)), some (.inr (some 46))], [.inl (nI 0)], M))) ∧ (¬ (((M 42 2) - n) < i) → ((nI 1) = 0 ∨ (nI 1) = 1) ∧ (mRun (mSx g) (f_X7_copy g) P (70, [some (.inr (some 0)), some (.inl s), some (.inl i), some (.inl q), some (.inl j), some (.inl n), some (.inr (some 42)), some (.inr (some 46))], [.inl (nI 1)], M))))))) ∧ (¬ ((M 42 1) = (M 46 1)) → P (some (.inl (-13))) M)) ∧ (¬ (b = 0) → P (some (.inl (-11))) M)) :
    mRun (mSx g) (f_X7_copy g) P (40, [some (.inr (some 0)), some (.inl s), some (.inl i), some (.inl q), some (.inl j), some (.inl n), some (.inr (some 42)), some (.inr (some 46))], [.inl b], M) := mRun.vc (m_X7_copy g) [70] 11 h

theorem v_copyE_42_46 (g : mG) (M : mM) (P : mP) (s i q j n : Int32) (b : Int32)
    (h : (b = 0 → P (some (.inl (-12))) M) ∧ (¬ (b = 0) → (j < 0 → ((nI 0) = 0 ∨ (nI 0) = 1) ∧ (mRun (mSx g) (f_X7_copy g) P (82, [some (.inr (some 0)), some (.inl s), some (.inl i), some (.inl q), some (.inl j), some (.inl n), some (.inr (some 42)), some (.inr (some 46))], [.inl (nI 0)], M))) ∧ (¬ (j < 0) → (n < 0 → ((nI 0) = 0 ∨ (nI 0) = 1) ∧ (mRun (mSx g) (f_X7_copy g) P (82, [some (.inr (some 0)), some (.inl s), some (.inl i), some (.inl q), some (.inl j), some (.inl n), some (.inr (some 42)), some (.inr (some 46))], [.inl (nI 0)], M))) ∧ (¬ (n < 0) → ((M 46 2) < n → ((nI 0) = 0 ∨ (nI 0) = 1) ∧ (mRun (mSx g) (f_X7_copy g) P (82, [some (.inr (some 0)), some (.inl s), some (.inl i), some (.inl q), some (.inl j), some (.inl n), some (.inr (some 42)), some (.inr (some 46))], [.inl (nI 0)], M))) ∧ (¬ ((M 46 2) < n) → (((M 46 2) - n) < j → ((nI 0) = 0 ∨ (nI 0) = 1) ∧ (mRun (mSx g) (f_X7_copy g) P (82, [some (.inr (some 0)), some (.inl s), some (.inl i), some (.inl q), some (.inl j), some (.inl n), some (.inr (some 42)), some (.inr (some 46))], [.inl (nI 0)], M))) ∧ (¬ (((M 46 2) - n) < j) → ((nI 1) = 0 ∨ (nI 1) = 1) ∧ (mRun (mSx g) (f_X7_copy g) P (82, [some (.inr (some 0)), some (.inl s), some (.inl i), some (.inl q), some (.inl j), some (.inl n), some (.inr (some 42)), some (.inr (some 46))], [.inl (nI 1)], M)))))))) :
    mRun (mSx g) (f_X7_copy g) P (70, [some (.inr (some 0)), some (.inl s), some (.inl i), some (.inl q), some (.inl j), some (.inl n), some (.inr (some 42)), some (.inr (some 46))], [.inl b], M) := mRun.vc (m_X7_copy g) [82] 6 h

theorem v_copyF_42_46 (g : mG) (M : mM) (P : mP) (s i q j n : Int32) (b : Int32)
    (h : (¬ b = 0 → ∃ n2 n3 : Nat, (∃ ra, (mSx g)[43]? = some (0, n2, ra)) ∧ (∃ rb, (mSx g)[47]? = some (0, n3, rb)) ∧ ¬ i < 0 ∧ ¬ j < 0 ∧ ¬ n < 0 ∧ i.toNatClampNeg + n.toNatClampNeg ≤ n2 ∧ j.toNatClampNeg + n.toNatClampNeg ≤ n3 ∧ (let M6 : mM := mUp M 47 (va_cpy (M 43) (M 47) i.toNatClampNeg j.toNatClampNeg n.toNatClampNeg); P (some (.inl n)) M6)) ∧ (¬ (¬ b = 0) → P (some (.inl (-12))) M)) :
    mRun (mSx g) (f_X7_copy g) P (82, [some (.inr (some 0)), some (.inl s), some (.inl i), some (.inl q), some (.inl j), some (.inl n), some (.inr (some 42)), some (.inr (some 46))], [.inl b], M) := mRun.vc (m_X7_copy g) [] 11 h

theorem copy_run_42_46 (g : mG) (M : mM) (P : mP) (z : aZ) (i j n : Int32) (hR : RpC M z) (hI : zInv z) (hP : pubP M P (F_copy z [nI 1, i, nI 3, j, n])) :
    mRun (mSx g) (f_X7_copy g) P (12, [some (.inr (some 0)), some (.inl (nI 1)), some (.inl i), some (.inl (nI 3)), some (.inl j), some (.inl n), some (.inr (some 42)), none], [.inr (some 46)], M) := by
  have hc : F_copy z [nI 1, i, nI 3, j, n] = if (z.2.2.2 1).1 = -1 ∨ (z.2.2.2 3).1 = -1 then (-11, z) else if ¬ (z.2.2.2 1).1 = (z.2.2.2 3).1 then (-13, z) else if dHld (z.2.2.2 1).2.1 i n = true ∧ dHld (z.2.2.2 3).2.1 j n = true then (n, zS z 3 ((z.2.2.2 3).1, (z.2.2.2 3).2.1, va_cpy (z.2.2.2 1).2.2 (z.2.2.2 3).2.2 (ub i) (ub j) (ub n))) else (-12, z) := rfl
  rw [hc] at hP
  have hz1 := (hI.2.2.2 1 (by decide)).2.1
  have hz2 := (hI.2.2.2 3 (by decide)).2.1
  have hS1 := hR.2.2.2.2.1 1 (by decide)
  have hS2 := hR.2.2.2.2.1 3 (by decide)
  have a1 : M 42 1 = (z.2.2.2 1).1 := hS1.1
  have a2 : M 42 2 = nI (z.2.2.2 1).2.1 := hS1.2.1
  have b1 : M 46 1 = (z.2.2.2 3).1 := hS2.1
  have b2 : M 46 2 = nI (z.2.2.2 3).2.1 := hS2.2.1
  have stay : ∀ v w : Int32, v = w → pubP M P (w, z) → P (some (.inl v)) M := fun v w e h => h v M e hR FrC.refl
  have kF : ¬ ((z.2.2.2 1).1 = -1 ∨ (z.2.2.2 3).1 = -1) → (z.2.2.2 1).1 = (z.2.2.2 3).1 → dHld (z.2.2.2 1).2.1 i n = true → ∀ b, b = mb (dHld (z.2.2.2 3).2.1 j n = true) → mRun (mSx g) (f_X7_copy g) P (82, [some (.inr (some 0)), some (.inl (nI 1)), some (.inl i), some (.inl (nI 3)), some (.inl j), some (.inl n), some (.inr (some 42)), some (.inr (some 46))], [.inl b], M) := fun w1 w2 w3 b hb => by
    rw [if_neg w1, if_neg (fun y => y w2)] at hP
    refine v_copyF_42_46 g M P _ _ _ _ _ _ ?_
    rw [hb]
    by_cases h : dHld (z.2.2.2 3).2.1 j n = true
    · rw [if_pos ⟨w3, h⟩] at hP
      rw [mb_t h]
      refine ⟨fun _ => ?_, fun y => absurd (by decide) y⟩
      obtain ⟨a, m, rfl, rfl, ham⟩ := dHld_t hz1 w3
      obtain ⟨b, m', rfl, hm', hbm⟩ := dHld_t hz2 h
      have hlen : m ≤ 40 ∧ m' ≤ 40 := ⟨by omega, by omega⟩
      obtain rfl : m = m' := by
        have := congrArg Int32.toInt hm'
        rw [nI_toInt (by omega), nI_toInt (by omega)] at this
        omega
      rw [ub_nI (by omega), ub_nI (by omega), ub_nI (by omega)] at hP
      have ca : (nI a).toNatClampNeg = a := nI_clamp (by omega)
      have cb : (nI b).toNatClampNeg = b := nI_clamp (by omega)
      have cm : (nI m).toNatClampNeg = m := nI_clamp (by omega)
      refine ⟨40, 40, ⟨_, mSx_at rfl⟩, ⟨_, mSx_at rfl⟩, nI_pos (by omega), nI_pos (by omega), nI_pos (by omega), by rw [ca, cm]; omega, by rw [cb, cm]; omega, ?_⟩
      rw [ca, cb, cm]
      intro M2
      refine hP _ M2 rfl (RpC_sheet hR (by decide) ⟨?_, ?_, fun y hy => ?_⟩ (fun d h1 h2 => mUp_ne h2)) (fun d h1 => mUp_ne (by omega))
      · show mUp M 47 _ 46 1 = _
        rw [mUp_ne (by decide)]
        exact b1
      · show mUp M 47 _ 46 2 = _
        rw [mUp_ne (by decide)]
        exact b2
      · show mUp M 47 _ 47 y = shC (z.2.2.2 3).1 (va_cpy (z.2.2.2 1).2.2 (z.2.2.2 3).2.2 a b m y)
        rw [mUp_at]
        by_cases hy2 : b ≤ y ∧ y < b + m
        · rw [pk_cpy_in hy2.1 hy2.2, pk_cpy_in hy2.1 hy2.2, ← w2]
          exact hS1.2.2 _ (by omega)
        · rw [pk_cpy_out (by omega), pk_cpy_out (by omega)]
          exact hS2.2.2 y hy
    · rw [if_neg (fun y => h y.2)] at hP
      rw [mb_f h]
      exact ⟨fun y => absurd rfl y, fun _ => stay _ _ rfl hP⟩
  have kE : ¬ ((z.2.2.2 1).1 = -1 ∨ (z.2.2.2 3).1 = -1) → (z.2.2.2 1).1 = (z.2.2.2 3).1 → ∀ b, b = mb (dHld (z.2.2.2 1).2.1 i n = true) → mRun (mSx g) (f_X7_copy g) P (70, [some (.inr (some 0)), some (.inl (nI 1)), some (.inl i), some (.inl (nI 3)), some (.inl j), some (.inl n), some (.inr (some 42)), some (.inr (some 46))], [.inl b], M) := fun w1 w2 b hb => by
    refine v_copyE_42_46 g M P _ _ _ _ _ _ ?_
    rw [hb, b2]
    by_cases h : dHld (z.2.2.2 1).2.1 i n = true
    · rw [mb_t h]
      exact ⟨fun y => absurd y (by decide), fun _ => hold_cs b (A := True) (fun v => mRun (mSx g) (f_X7_copy g) P (82, [some (.inr (some 0)), some (.inl (nI 1)), some (.inl i), some (.inl (nI 3)), some (.inl j), some (.inl n), some (.inr (some 42)), some (.inr (some 46))], [.inl v], M)) (kF w1 w2 h) hz2⟩
    · rw [if_neg w1, if_neg (fun y => y w2), if_neg (fun y => h y.1)] at hP
      rw [mb_f h]
      exact ⟨fun _ => stay _ _ rfl hP, fun y => absurd rfl y⟩
  have kD : ¬ (z.2.2.2 1).1 = -1 → ∀ b, b = mb ((z.2.2.2 3).1 = -1) → mRun (mSx g) (f_X7_copy g) P (40, [some (.inr (some 0)), some (.inl (nI 1)), some (.inl i), some (.inl (nI 3)), some (.inl j), some (.inl n), some (.inr (some 42)), some (.inr (some 46))], [.inl b], M) := fun w1 b hb => by
    refine v_copyD_42_46 g M P _ _ _ _ _ _ ?_
    rw [hb, a1]
    try rw [b1]
    rw [a2]
    by_cases h : (z.2.2.2 3).1 = -1
    · rw [if_pos (Or.inr h)] at hP
      rw [mb_t h]
      exact ⟨fun y => absurd y (by decide), fun _ => stay _ _ rfl hP⟩
    · have w : ¬ ((z.2.2.2 1).1 = -1 ∨ (z.2.2.2 3).1 = -1) := fun y => y.elim w1 h
      rw [mb_f h]
      refine ⟨fun _ => ⟨fun w2 => hold_cs b (A := True) (fun v => mRun (mSx g) (f_X7_copy g) P (70, [some (.inr (some 0)), some (.inl (nI 1)), some (.inl i), some (.inl (nI 3)), some (.inl j), some (.inl n), some (.inr (some 42)), some (.inr (some 46))], [.inl v], M)) (kE w w2) hz1, fun w2 => ?_⟩, fun y => absurd rfl y⟩
      rw [if_neg w, if_pos w2] at hP
      exact stay _ _ rfl hP
  have kC : ∀ b, b = mb ((z.2.2.2 1).1 = -1) → mRun (mSx g) (f_X7_copy g) P (32, [some (.inr (some 0)), some (.inl (nI 1)), some (.inl i), some (.inl (nI 3)), some (.inl j), some (.inl n), some (.inr (some 42)), some (.inr (some 46))], [.inl b], M) := fun b hb => by
    refine v_copyC_42_46 g M P _ _ _ _ _ _ ?_
    rw [hb, b1]
    by_cases h : (z.2.2.2 1).1 = -1
    · rw [if_pos (Or.inl h)] at hP
      rw [mb_t h]
      exact ⟨fun _ => stay _ _ rfl hP, fun y => absurd (by decide) y⟩
    · rw [mb_f h]
      exact ⟨fun y => absurd rfl y, fun _ => ⟨fun w => ⟨Or.inl rfl, kD h _ (mb_f w).symm⟩, fun w => ⟨Or.inr rfl, kD h _ (mb_t (Classical.not_not.mp w)).symm⟩⟩⟩
  refine v_copyB_42_46 g M P _ _ _ _ _ ?_
  rw [a1]
  exact ⟨fun w => ⟨Or.inl rfl, kC _ (mb_f w).symm⟩, fun w => ⟨Or.inr rfl, kC _ (mb_t (Classical.not_not.mp w)).symm⟩⟩
theorem v_copyB_44_40 (g : mG) (M : mM) (P : mP) (s i q j n : Int32)
    (h : (¬ (M 44 1) = (-1) → ((nI 0) = 0 ∨ (nI 0) = 1) ∧ (mRun (mSx g) (f_X7_copy g) P (32, [some (.inr (some 0)), some (.inl s), some (.inl i), some (.inl q), some (.inl j), some (.inl n), some (.inr (some 44)), some (.inr (some 40))], [.inl (nI 0)], M))) ∧ (¬ (¬ (M 44 1) = (-1)) → ((nI 1) = 0 ∨ (nI 1) = 1) ∧ (mRun (mSx g) (f_X7_copy g) P (32, [some (.inr (some 0)), some (.inl s), some (.inl i), some (.inl q), some (.inl j), some (.inl n), some (.inr (some 44)), some (.inr (some 40))], [.inl (nI 1)], M)))) :
    mRun (mSx g) (f_X7_copy g) P (12, [some (.inr (some 0)), some (.inl s), some (.inl i), some (.inl q), some (.inl j), some (.inl n), some (.inr (some 44)), none], [.inr (some 40)], M) := mRun.vc (m_X7_copy g) [32] 8 h

theorem v_copyC_44_40 (g : mG) (M : mM) (P : mP) (s i q j n : Int32) (b : Int32)
    (h : (¬ b = 0 → P (some (.inl (-11))) M) ∧ (¬ (¬ b = 0) → (¬ (M 40 1) = (-1) → ((nI 0) = 0 ∨ (nI 0) = 1) ∧ (mRun (mSx g) (f_X7_copy g) P (40, [some (.inr (some 0)), some (.inl s), some (.inl i), some (.inl q), some (.inl j), some (.inl n), some (.inr (some 44)), some (.inr (some 40))], [.inl (nI 0)], M))) ∧ (¬ (¬ (M 40 1) = (-1)) → ((nI 1) = 0 ∨ (nI 1) = 1) ∧ (mRun (mSx g) (f_X7_copy g) P (40, [some (.inr (some 0)), some (.inl s), some (.inl i), some (.inl q), some (.inl j), some (.inl n), some (.inr (some 44)), some (.inr (some 40))], [.inl (nI 1)], M))))) :
    mRun (mSx g) (f_X7_copy g) P (32, [some (.inr (some 0)), some (.inl s), some (.inl i), some (.inl q), some (.inl j), some (.inl n), some (.inr (some 44)), some (.inr (some 40))], [.inl b], M) := mRun.vc (m_X7_copy g) [40] 4 h

theorem v_copyD_44_40 (g : mG) (M : mM) (P : mP) (s i q j n : Int32) (b : Int32)
    (h : (b = 0 → ((M 44 1) = (M 40 1) → (i < 0 → ((nI 0) = 0 ∨ (nI 0) = 1) ∧ (mRun (mSx g) (f_X7_copy g) P (70, [some (.inr (some 0)), some (.inl s), some (.inl i), some (.inl q), some (.inl j), some (.inl n), some (.inr (some 44)), some (.inr (some 40))], [.inl (nI 0)], M))) ∧ (¬ (i < 0) → (n < 0 → ((nI 0) = 0 ∨ (nI 0) = 1) ∧ (mRun (mSx g) (f_X7_copy g) P (70, [some (.inr (some 0)), some (.inl s), some (.inl i), some (.inl q), some (.inl j), some (.inl n), some (.inr (some 44)), some (.inr (some 40))], [.inl (nI 0)], M))) ∧ (¬ (n < 0) → ((M 44 2) < n → ((nI 0) = 0 ∨ (nI 0) = 1) ∧ (mRun (mSx g) (f_X7_copy g) P (70, [some (.inr (some 0)), some (.inl s), some (.inl i), some (.inl q), some (.inl j), some (.inl n), some (.inr (some 44)), some (.inr (some 40))], [.inl (nI 0)], M))) ∧ (¬ ((M 44 2) < n) → (((M 44 2) - n) < i → ((nI 0) = 0 ∨ (nI 0) = 1) ∧ (mRun (mSx g) (f_X7_copy g) P (70, [some (.inr (some 0)), some (.inl s), some (.inl i), some (.inl q), some (.inl j), some (.inl n), some (.inr (some 44)), some (.inr (some 40))], [.inl (nI 0)], M))) ∧ (¬ (((M 44 2) - n) < i) → ((nI 1) = 0 ∨ (nI 1) = 1) ∧ (mRun (mSx g) (f_X7_copy g) P (70, [some (.inr (some 0)), some (.inl s), some (.inl i), some (.inl q), some (.inl j), some (.inl n), some (.inr (some 44)), some (.inr (some 40))], [.inl (nI 1)], M))))))) ∧ (¬ ((M 44 1) = (M 40 1)) → P (some (.inl (-13))) M)) ∧ (¬ (b = 0) → P (some (.inl (-11))) M)) :
    mRun (mSx g) (f_X7_copy g) P (40, [some (.inr (some 0)), some (.inl s), some (.inl i), some (.inl q), some (.inl j), some (.inl n), some (.inr (some 44)), some (.inr (some 40))], [.inl b], M) := mRun.vc (m_X7_copy g) [70] 11 h

theorem v_copyE_44_40 (g : mG) (M : mM) (P : mP) (s i q j n : Int32) (b : Int32)
    (h : (b = 0 → P (some (.inl (-12))) M) ∧ (¬ (b = 0) → (j < 0 → ((nI 0) = 0 ∨ (nI 0) = 1) ∧ (mRun (mSx g) (f_X7_copy g) P (82, [some (.inr (some 0)), some (.inl s), some (.inl i), some (.inl q), some (.inl j), some (.inl n), some (.inr (some 44)), some (.inr (some 40))], [.inl (nI 0)], M))) ∧ (¬ (j < 0) → (n < 0 → ((nI 0) = 0 ∨ (nI 0) = 1) ∧ (mRun (mSx g) (f_X7_copy g) P (82, [some (.inr (some 0)), some (.inl s), some (.inl i), some (.inl q), some (.inl j), some (.inl n), some (.inr (some 44)), some (.inr (some 40))], [.inl (nI 0)], M))) ∧ (¬ (n < 0) → ((M 40 2) < n → ((nI 0) = 0 ∨ (nI 0) = 1) ∧ (mRun (mSx g) (f_X7_copy g) P (82, [some (.inr (some 0)), some (.inl s), some (.inl i), some (.inl q), some (.inl j), some (.inl n), some (.inr (some 44)), some (.inr (some 40))], [.inl (nI 0)], M))) ∧ (¬ ((M 40 2) < n) → (((M 40 2) - n) < j → ((nI 0) = 0 ∨ (nI 0) = 1) ∧ (mRun (mSx g) (f_X7_copy g) P (82, [some (.inr (some 0)), some (.inl s), some (.inl i), some (.inl q), some (.inl j), some (.inl n), some (.inr (some 44)), some (.inr (some 40))], [.inl (nI 0)], M))) ∧ (¬ (((M 40 2) - n) < j) → ((nI 1) = 0 ∨ (nI 1) = 1) ∧ (mRun (mSx g) (f_X7_copy g) P (82, [some (.inr (some 0)), some (.inl s), some (.inl i), some (.inl q), some (.inl j), some (.inl n), some (.inr (some 44)), some (.inr (some 40))], [.inl (nI 1)], M)))))))) :
    mRun (mSx g) (f_X7_copy g) P (70, [some (.inr (some 0)), some (.inl s), some (.inl i), some (.inl q), some (.inl j), some (.inl n), some (.inr (some 44)), some (.inr (some 40))], [.inl b], M) := mRun.vc (m_X7_copy g) [82] 6 h

theorem v_copyF_44_40 (g : mG) (M : mM) (P : mP) (s i q j n : Int32) (b : Int32)
    (h : (¬ b = 0 → ∃ n2 n3 : Nat, (∃ ra, (mSx g)[45]? = some (0, n2, ra)) ∧ (∃ rb, (mSx g)[41]? = some (0, n3, rb)) ∧ ¬ i < 0 ∧ ¬ j < 0 ∧ ¬ n < 0 ∧ i.toNatClampNeg + n.toNatClampNeg ≤ n2 ∧ j.toNatClampNeg + n.toNatClampNeg ≤ n3 ∧ (let M6 : mM := mUp M 41 (va_cpy (M 45) (M 41) i.toNatClampNeg j.toNatClampNeg n.toNatClampNeg); P (some (.inl n)) M6)) ∧ (¬ (¬ b = 0) → P (some (.inl (-12))) M)) :
    mRun (mSx g) (f_X7_copy g) P (82, [some (.inr (some 0)), some (.inl s), some (.inl i), some (.inl q), some (.inl j), some (.inl n), some (.inr (some 44)), some (.inr (some 40))], [.inl b], M) := mRun.vc (m_X7_copy g) [] 11 h

theorem copy_run_44_40 (g : mG) (M : mM) (P : mP) (z : aZ) (i j n : Int32) (hR : RpC M z) (hI : zInv z) (hP : pubP M P (F_copy z [nI 2, i, nI 0, j, n])) :
    mRun (mSx g) (f_X7_copy g) P (12, [some (.inr (some 0)), some (.inl (nI 2)), some (.inl i), some (.inl (nI 0)), some (.inl j), some (.inl n), some (.inr (some 44)), none], [.inr (some 40)], M) := by
  have hc : F_copy z [nI 2, i, nI 0, j, n] = if (z.2.2.2 2).1 = -1 ∨ (z.2.2.2 0).1 = -1 then (-11, z) else if ¬ (z.2.2.2 2).1 = (z.2.2.2 0).1 then (-13, z) else if dHld (z.2.2.2 2).2.1 i n = true ∧ dHld (z.2.2.2 0).2.1 j n = true then (n, zS z 0 ((z.2.2.2 0).1, (z.2.2.2 0).2.1, va_cpy (z.2.2.2 2).2.2 (z.2.2.2 0).2.2 (ub i) (ub j) (ub n))) else (-12, z) := rfl
  rw [hc] at hP
  have hz1 := (hI.2.2.2 2 (by decide)).2.1
  have hz2 := (hI.2.2.2 0 (by decide)).2.1
  have hS1 := hR.2.2.2.2.1 2 (by decide)
  have hS2 := hR.2.2.2.2.1 0 (by decide)
  have a1 : M 44 1 = (z.2.2.2 2).1 := hS1.1
  have a2 : M 44 2 = nI (z.2.2.2 2).2.1 := hS1.2.1
  have b1 : M 40 1 = (z.2.2.2 0).1 := hS2.1
  have b2 : M 40 2 = nI (z.2.2.2 0).2.1 := hS2.2.1
  have stay : ∀ v w : Int32, v = w → pubP M P (w, z) → P (some (.inl v)) M := fun v w e h => h v M e hR FrC.refl
  have kF : ¬ ((z.2.2.2 2).1 = -1 ∨ (z.2.2.2 0).1 = -1) → (z.2.2.2 2).1 = (z.2.2.2 0).1 → dHld (z.2.2.2 2).2.1 i n = true → ∀ b, b = mb (dHld (z.2.2.2 0).2.1 j n = true) → mRun (mSx g) (f_X7_copy g) P (82, [some (.inr (some 0)), some (.inl (nI 2)), some (.inl i), some (.inl (nI 0)), some (.inl j), some (.inl n), some (.inr (some 44)), some (.inr (some 40))], [.inl b], M) := fun w1 w2 w3 b hb => by
    rw [if_neg w1, if_neg (fun y => y w2)] at hP
    refine v_copyF_44_40 g M P _ _ _ _ _ _ ?_
    rw [hb]
    by_cases h : dHld (z.2.2.2 0).2.1 j n = true
    · rw [if_pos ⟨w3, h⟩] at hP
      rw [mb_t h]
      refine ⟨fun _ => ?_, fun y => absurd (by decide) y⟩
      obtain ⟨a, m, rfl, rfl, ham⟩ := dHld_t hz1 w3
      obtain ⟨b, m', rfl, hm', hbm⟩ := dHld_t hz2 h
      have hlen : m ≤ 40 ∧ m' ≤ 40 := ⟨by omega, by omega⟩
      obtain rfl : m = m' := by
        have := congrArg Int32.toInt hm'
        rw [nI_toInt (by omega), nI_toInt (by omega)] at this
        omega
      rw [ub_nI (by omega), ub_nI (by omega), ub_nI (by omega)] at hP
      have ca : (nI a).toNatClampNeg = a := nI_clamp (by omega)
      have cb : (nI b).toNatClampNeg = b := nI_clamp (by omega)
      have cm : (nI m).toNatClampNeg = m := nI_clamp (by omega)
      refine ⟨40, 40, ⟨_, mSx_at rfl⟩, ⟨_, mSx_at rfl⟩, nI_pos (by omega), nI_pos (by omega), nI_pos (by omega), by rw [ca, cm]; omega, by rw [cb, cm]; omega, ?_⟩
      rw [ca, cb, cm]
      intro M2
      refine hP _ M2 rfl (RpC_sheet hR (by decide) ⟨?_, ?_, fun y hy => ?_⟩ (fun d h1 h2 => mUp_ne h2)) (fun d h1 => mUp_ne (by omega))
      · show mUp M 41 _ 40 1 = _
        rw [mUp_ne (by decide)]
        exact b1
      · show mUp M 41 _ 40 2 = _
        rw [mUp_ne (by decide)]
        exact b2
      · show mUp M 41 _ 41 y = shC (z.2.2.2 0).1 (va_cpy (z.2.2.2 2).2.2 (z.2.2.2 0).2.2 a b m y)
        rw [mUp_at]
        by_cases hy2 : b ≤ y ∧ y < b + m
        · rw [pk_cpy_in hy2.1 hy2.2, pk_cpy_in hy2.1 hy2.2, ← w2]
          exact hS1.2.2 _ (by omega)
        · rw [pk_cpy_out (by omega), pk_cpy_out (by omega)]
          exact hS2.2.2 y hy
    · rw [if_neg (fun y => h y.2)] at hP
      rw [mb_f h]
      exact ⟨fun y => absurd rfl y, fun _ => stay _ _ rfl hP⟩
  have kE : ¬ ((z.2.2.2 2).1 = -1 ∨ (z.2.2.2 0).1 = -1) → (z.2.2.2 2).1 = (z.2.2.2 0).1 → ∀ b, b = mb (dHld (z.2.2.2 2).2.1 i n = true) → mRun (mSx g) (f_X7_copy g) P (70, [some (.inr (some 0)), some (.inl (nI 2)), some (.inl i), some (.inl (nI 0)), some (.inl j), some (.inl n), some (.inr (some 44)), some (.inr (some 40))], [.inl b], M) := fun w1 w2 b hb => by
    refine v_copyE_44_40 g M P _ _ _ _ _ _ ?_
    rw [hb, b2]
    by_cases h : dHld (z.2.2.2 2).2.1 i n = true
    · rw [mb_t h]
      exact ⟨fun y => absurd y (by decide), fun _ => hold_cs b (A := True) (fun v => mRun (mSx g) (f_X7_copy g) P (82, [some (.inr (some 0)), some (.inl (nI 2)), some (.inl i), some (.inl (nI 0)), some (.inl j), some (.inl n), some (.inr (some 44)), some (.inr (some 40))], [.inl v], M)) (kF w1 w2 h) hz2⟩
    · rw [if_neg w1, if_neg (fun y => y w2), if_neg (fun y => h y.1)] at hP
      rw [mb_f h]
      exact ⟨fun _ => stay _ _ rfl hP, fun y => absurd rfl y⟩
  have kD : ¬ (z.2.2.2 2).1 = -1 → ∀ b, b = mb ((z.2.2.2 0).1 = -1) → mRun (mSx g) (f_X7_copy g) P (40, [some (.inr (some 0)), some (.inl (nI 2)), some (.inl i), some (.inl (nI 0)), some (.inl j), some (.inl n), some (.inr (some 44)), some (.inr (some 40))], [.inl b], M) := fun w1 b hb => by
    refine v_copyD_44_40 g M P _ _ _ _ _ _ ?_
    rw [hb, a1]
    try rw [b1]
    rw [a2]
    by_cases h : (z.2.2.2 0).1 = -1
    · rw [if_pos (Or.inr h)] at hP
      rw [mb_t h]
      exact ⟨fun y => absurd y (by decide), fun _ => stay _ _ rfl hP⟩
    · have w : ¬ ((z.2.2.2 2).1 = -1 ∨ (z.2.2.2 0).1 = -1) := fun y => y.elim w1 h
      rw [mb_f h]
      refine ⟨fun _ => ⟨fun w2 => hold_cs b (A := True) (fun v => mRun (mSx g) (f_X7_copy g) P (70, [some (.inr (some 0)), some (.inl (nI 2)), some (.inl i), some (.inl (nI 0)), some (.inl j), some (.inl n), some (.inr (some 44)), some (.inr (some 40))], [.inl v], M)) (kE w w2) hz1, fun w2 => ?_⟩, fun y => absurd rfl y⟩
      rw [if_neg w, if_pos w2] at hP
      exact stay _ _ rfl hP
  have kC : ∀ b, b = mb ((z.2.2.2 2).1 = -1) → mRun (mSx g) (f_X7_copy g) P (32, [some (.inr (some 0)), some (.inl (nI 2)), some (.inl i), some (.inl (nI 0)), some (.inl j), some (.inl n), some (.inr (some 44)), some (.inr (some 40))], [.inl b], M) := fun b hb => by
    refine v_copyC_44_40 g M P _ _ _ _ _ _ ?_
    rw [hb, b1]
    by_cases h : (z.2.2.2 2).1 = -1
    · rw [if_pos (Or.inl h)] at hP
      rw [mb_t h]
      exact ⟨fun _ => stay _ _ rfl hP, fun y => absurd (by decide) y⟩
    · rw [mb_f h]
      exact ⟨fun y => absurd rfl y, fun _ => ⟨fun w => ⟨Or.inl rfl, kD h _ (mb_f w).symm⟩, fun w => ⟨Or.inr rfl, kD h _ (mb_t (Classical.not_not.mp w)).symm⟩⟩⟩
  refine v_copyB_44_40 g M P _ _ _ _ _ ?_
  rw [a1]
  exact ⟨fun w => ⟨Or.inl rfl, kC _ (mb_f w).symm⟩, fun w => ⟨Or.inr rfl, kC _ (mb_t (Classical.not_not.mp w)).symm⟩⟩
theorem v_copyB_44_42 (g : mG) (M : mM) (P : mP) (s i q j n : Int32)
    (h : (¬ (M 44 1) = (-1) → ((nI 0) = 0 ∨ (nI 0) = 1) ∧ (mRun (mSx g) (f_X7_copy g) P (32, [some (.inr (some 0)), some (.inl s), some (.inl i), some (.inl q), some (.inl j), some (.inl n), some (.inr (some 44)), some (.inr (some 42))], [.inl (nI 0)], M))) ∧ (¬ (¬ (M 44 1) = (-1)) → ((nI 1) = 0 ∨ (nI 1) = 1) ∧ (mRun (mSx g) (f_X7_copy g) P (32, [some (.inr (some 0)), some (.inl s), some (.inl i), some (.inl q), some (.inl j), some (.inl n), some (.inr (some 44)), some (.inr (some 42))], [.inl (nI 1)], M)))) :
    mRun (mSx g) (f_X7_copy g) P (12, [some (.inr (some 0)), some (.inl s), some (.inl i), some (.inl q), some (.inl j), some (.inl n), some (.inr (some 44)), none], [.inr (some 42)], M) := mRun.vc (m_X7_copy g) [32] 8 h

theorem v_copyC_44_42 (g : mG) (M : mM) (P : mP) (s i q j n : Int32) (b : Int32)
    (h : (¬ b = 0 → P (some (.inl (-11))) M) ∧ (¬ (¬ b = 0) → (¬ (M 42 1) = (-1) → ((nI 0) = 0 ∨ (nI 0) = 1) ∧ (mRun (mSx g) (f_X7_copy g) P (40, [some (.inr (some 0)), some (.inl s), some (.inl i), some (.inl q), some (.inl j), some (.inl n), some (.inr (some 44)), some (.inr (some 42))], [.inl (nI 0)], M))) ∧ (¬ (¬ (M 42 1) = (-1)) → ((nI 1) = 0 ∨ (nI 1) = 1) ∧ (mRun (mSx g) (f_X7_copy g) P (40, [some (.inr (some 0)), some (.inl s), some (.inl i), some (.inl q), some (.inl j), some (.inl n), some (.inr (some 44)), some (.inr (some 42))], [.inl (nI 1)], M))))) :
    mRun (mSx g) (f_X7_copy g) P (32, [some (.inr (some 0)), some (.inl s), some (.inl i), some (.inl q), some (.inl j), some (.inl n), some (.inr (some 44)), some (.inr (some 42))], [.inl b], M) := mRun.vc (m_X7_copy g) [40] 4 h

theorem v_copyD_44_42 (g : mG) (M : mM) (P : mP) (s i q j n : Int32) (b : Int32)
    (h : (b = 0 → ((M 44 1) = (M 42 1) → (i < 0 → ((nI 0) = 0 ∨ (nI 0) = 1) ∧ (mRun (mSx g) (f_X7_copy g) P (70, [some (.inr (some 0)), some (.inl s), some (.inl i), some (.inl q), some (.inl j), some (.inl n), some (.inr (some 44)), some (.inr (some 42))], [.inl (nI 0)], M))) ∧ (¬ (i < 0) → (n < 0 → ((nI 0) = 0 ∨ (nI 0) = 1) ∧ (mRun (mSx g) (f_X7_copy g) P (70, [some (.inr (some 0)), some (.inl s), some (.inl i), some (.inl q), some (.inl j), some (.inl n), some (.inr (some 44)), some (.inr (some 42))], [.inl (nI 0)], M))) ∧ (¬ (n < 0) → ((M 44 2) < n → ((nI 0) = 0 ∨ (nI 0) = 1) ∧ (mRun (mSx g) (f_X7_copy g) P (70, [some (.inr (some 0)), some (.inl s), some (.inl i), some (.inl q), some (.inl j), some (.inl n), some (.inr (some 44)), some (.inr (some 42))], [.inl (nI 0)], M))) ∧ (¬ ((M 44 2) < n) → (((M 44 2) - n) < i → ((nI 0) = 0 ∨ (nI 0) = 1) ∧ (mRun (mSx g) (f_X7_copy g) P (70, [some (.inr (some 0)), some (.inl s), some (.inl i), some (.inl q), some (.inl j), some (.inl n), some (.inr (some 44)), some (.inr (some 42))], [.inl (nI 0)], M))) ∧ (¬ (((M 44 2) - n) < i) → ((nI 1) = 0 ∨ (nI 1) = 1) ∧ (mRun (mSx g) (f_X7_copy g) P (70, [some (.inr (some 0)), some (.inl s), some (.inl i), some (.inl q), some (.inl j), some (.inl n), some (.inr (some 44)), some (.inr (some 42))], [.inl (nI 1)], M))))))) ∧ (¬ ((M 44 1) = (M 42 1)) → P (some (.inl (-13))) M)) ∧ (¬ (b = 0) → P (some (.inl (-11))) M)) :
    mRun (mSx g) (f_X7_copy g) P (40, [some (.inr (some 0)), some (.inl s), some (.inl i), some (.inl q), some (.inl j), some (.inl n), some (.inr (some 44)), some (.inr (some 42))], [.inl b], M) := mRun.vc (m_X7_copy g) [70] 11 h

theorem v_copyE_44_42 (g : mG) (M : mM) (P : mP) (s i q j n : Int32) (b : Int32)
    (h : (b = 0 → P (some (.inl (-12))) M) ∧ (¬ (b = 0) → (j < 0 → ((nI 0) = 0 ∨ (nI 0) = 1) ∧ (mRun (mSx g) (f_X7_copy g) P (82, [some (.inr (some 0)), some (.inl s), some (.inl i), some (.inl q), some (.inl j), some (.inl n), some (.inr (some 44)), some (.inr (some 42))], [.inl (nI 0)], M))) ∧ (¬ (j < 0) → (n < 0 → ((nI 0) = 0 ∨ (nI 0) = 1) ∧ (mRun (mSx g) (f_X7_copy g) P (82, [some (.inr (some 0)), some (.inl s), some (.inl i), some (.inl q), some (.inl j), some (.inl n), some (.inr (some 44)), some (.inr (some 42))], [.inl (nI 0)], M))) ∧ (¬ (n < 0) → ((M 42 2) < n → ((nI 0) = 0 ∨ (nI 0) = 1) ∧ (mRun (mSx g) (f_X7_copy g) P (82, [some (.inr (some 0)), some (.inl s), some (.inl i), some (.inl q), some (.inl j), some (.inl n), some (.inr (some 44)), some (.inr (some 42))], [.inl (nI 0)], M))) ∧ (¬ ((M 42 2) < n) → (((M 42 2) - n) < j → ((nI 0) = 0 ∨ (nI 0) = 1) ∧ (mRun (mSx g) (f_X7_copy g) P (82, [some (.inr (some 0)), some (.inl s), some (.inl i), some (.inl q), some (.inl j), some (.inl n), some (.inr (some 44)), some (.inr (some 42))], [.inl (nI 0)], M))) ∧ (¬ (((M 42 2) - n) < j) → ((nI 1) = 0 ∨ (nI 1) = 1) ∧ (mRun (mSx g) (f_X7_copy g) P (82, [some (.inr (some 0)), some (.inl s), some (.inl i), some (.inl q), some (.inl j), some (.inl n), some (.inr (some 44)), some (.inr (some 42))], [.inl (nI 1)], M)))))))) :
    mRun (mSx g) (f_X7_copy g) P (70, [some (.inr (some 0)), some (.inl s), some (.inl i), some (.inl q), some (.inl j), some (.inl n), some (.inr (some 44)), some (.inr (some 42))], [.inl b], M) := mRun.vc (m_X7_copy g) [82] 6 h

theorem v_copyF_44_42 (g : mG) (M : mM) (P : mP) (s i q j n : Int32) (b : Int32)
    (h : (¬ b = 0 → ∃ n2 n3 : Nat, (∃ ra, (mSx g)[45]? = some (0, n2, ra)) ∧ (∃ rb, (mSx g)[43]? = some (0, n3, rb)) ∧ ¬ i < 0 ∧ ¬ j < 0 ∧ ¬ n < 0 ∧ i.toNatClampNeg + n.toNatClampNeg ≤ n2 ∧ j.toNatClampNeg + n.toNatClampNeg ≤ n3 ∧ (let M6 : mM := mUp M 43 (va_cpy (M 45) (M 43) i.toNatClampNeg j.toNatClampNeg n.toNatClampNeg); P (some (.inl n)) M6)) ∧ (¬ (¬ b = 0) → P (some (.inl (-12))) M)) :
    mRun (mSx g) (f_X7_copy g) P (82, [some (.inr (some 0)), some (.inl s), some (.inl i), some (.inl q), some (.inl j), some (.inl n), some (.inr (some 44)), some (.inr (some 42))], [.inl b], M) := mRun.vc (m_X7_copy g) [] 11 h

theorem copy_run_44_42 (g : mG) (M : mM) (P : mP) (z : aZ) (i j n : Int32) (hR : RpC M z) (hI : zInv z) (hP : pubP M P (F_copy z [nI 2, i, nI 1, j, n])) :
    mRun (mSx g) (f_X7_copy g) P (12, [some (.inr (some 0)), some (.inl (nI 2)), some (.inl i), some (.inl (nI 1)), some (.inl j), some (.inl n), some (.inr (some 44)), none], [.inr (some 42)], M) := by
  have hc : F_copy z [nI 2, i, nI 1, j, n] = if (z.2.2.2 2).1 = -1 ∨ (z.2.2.2 1).1 = -1 then (-11, z) else if ¬ (z.2.2.2 2).1 = (z.2.2.2 1).1 then (-13, z) else if dHld (z.2.2.2 2).2.1 i n = true ∧ dHld (z.2.2.2 1).2.1 j n = true then (n, zS z 1 ((z.2.2.2 1).1, (z.2.2.2 1).2.1, va_cpy (z.2.2.2 2).2.2 (z.2.2.2 1).2.2 (ub i) (ub j) (ub n))) else (-12, z) := rfl
  rw [hc] at hP
  have hz1 := (hI.2.2.2 2 (by decide)).2.1
  have hz2 := (hI.2.2.2 1 (by decide)).2.1
  have hS1 := hR.2.2.2.2.1 2 (by decide)
  have hS2 := hR.2.2.2.2.1 1 (by decide)
  have a1 : M 44 1 = (z.2.2.2 2).1 := hS1.1
  have a2 : M 44 2 = nI (z.2.2.2 2).2.1 := hS1.2.1
  have b1 : M 42 1 = (z.2.2.2 1).1 := hS2.1
  have b2 : M 42 2 = nI (z.2.2.2 1).2.1 := hS2.2.1
  have stay : ∀ v w : Int32, v = w → pubP M P (w, z) → P (some (.inl v)) M := fun v w e h => h v M e hR FrC.refl
  have kF : ¬ ((z.2.2.2 2).1 = -1 ∨ (z.2.2.2 1).1 = -1) → (z.2.2.2 2).1 = (z.2.2.2 1).1 → dHld (z.2.2.2 2).2.1 i n = true → ∀ b, b = mb (dHld (z.2.2.2 1).2.1 j n = true) → mRun (mSx g) (f_X7_copy g) P (82, [some (.inr (some 0)), some (.inl (nI 2)), some (.inl i), some (.inl (nI 1)), some (.inl j), some (.inl n), some (.inr (some 44)), some (.inr (some 42))], [.inl b], M) := fun w1 w2 w3 b hb => by
    rw [if_neg w1, if_neg (fun y => y w2)] at hP
    refine v_copyF_44_42 g M P _ _ _ _ _ _ ?_
    rw [hb]
    by_cases h : dHld (z.2.2.2 1).2.1 j n = true
    · rw [if_pos ⟨w3, h⟩] at hP
      rw [mb_t h]
      refine ⟨fun _ => ?_, fun y => absurd (by decide) y⟩
      obtain ⟨a, m, rfl, rfl, ham⟩ := dHld_t hz1 w3
      obtain ⟨b, m', rfl, hm', hbm⟩ := dHld_t hz2 h
      have hlen : m ≤ 40 ∧ m' ≤ 40 := ⟨by omega, by omega⟩
      obtain rfl : m = m' := by
        have := congrArg Int32.toInt hm'
        rw [nI_toInt (by omega), nI_toInt (by omega)] at this
        omega
      rw [ub_nI (by omega), ub_nI (by omega), ub_nI (by omega)] at hP
      have ca : (nI a).toNatClampNeg = a := nI_clamp (by omega)
      have cb : (nI b).toNatClampNeg = b := nI_clamp (by omega)
      have cm : (nI m).toNatClampNeg = m := nI_clamp (by omega)
      refine ⟨40, 40, ⟨_, mSx_at rfl⟩, ⟨_, mSx_at rfl⟩, nI_pos (by omega), nI_pos (by omega), nI_pos (by omega), by rw [ca, cm]; omega, by rw [cb, cm]; omega, ?_⟩
      rw [ca, cb, cm]
      intro M2
      refine hP _ M2 rfl (RpC_sheet hR (by decide) ⟨?_, ?_, fun y hy => ?_⟩ (fun d h1 h2 => mUp_ne h2)) (fun d h1 => mUp_ne (by omega))
      · show mUp M 43 _ 42 1 = _
        rw [mUp_ne (by decide)]
        exact b1
      · show mUp M 43 _ 42 2 = _
        rw [mUp_ne (by decide)]
        exact b2
      · show mUp M 43 _ 43 y = shC (z.2.2.2 1).1 (va_cpy (z.2.2.2 2).2.2 (z.2.2.2 1).2.2 a b m y)
        rw [mUp_at]
        by_cases hy2 : b ≤ y ∧ y < b + m
        · rw [pk_cpy_in hy2.1 hy2.2, pk_cpy_in hy2.1 hy2.2, ← w2]
          exact hS1.2.2 _ (by omega)
        · rw [pk_cpy_out (by omega), pk_cpy_out (by omega)]
          exact hS2.2.2 y hy
    · rw [if_neg (fun y => h y.2)] at hP
      rw [mb_f h]
      exact ⟨fun y => absurd rfl y, fun _ => stay _ _ rfl hP⟩
  have kE : ¬ ((z.2.2.2 2).1 = -1 ∨ (z.2.2.2 1).1 = -1) → (z.2.2.2 2).1 = (z.2.2.2 1).1 → ∀ b, b = mb (dHld (z.2.2.2 2).2.1 i n = true) → mRun (mSx g) (f_X7_copy g) P (70, [some (.inr (some 0)), some (.inl (nI 2)), some (.inl i), some (.inl (nI 1)), some (.inl j), some (.inl n), some (.inr (some 44)), some (.inr (some 42))], [.inl b], M) := fun w1 w2 b hb => by
    refine v_copyE_44_42 g M P _ _ _ _ _ _ ?_
    rw [hb, b2]
    by_cases h : dHld (z.2.2.2 2).2.1 i n = true
    · rw [mb_t h]
      exact ⟨fun y => absurd y (by decide), fun _ => hold_cs b (A := True) (fun v => mRun (mSx g) (f_X7_copy g) P (82, [some (.inr (some 0)), some (.inl (nI 2)), some (.inl i), some (.inl (nI 1)), some (.inl j), some (.inl n), some (.inr (some 44)), some (.inr (some 42))], [.inl v], M)) (kF w1 w2 h) hz2⟩
    · rw [if_neg w1, if_neg (fun y => y w2), if_neg (fun y => h y.1)] at hP
      rw [mb_f h]
      exact ⟨fun _ => stay _ _ rfl hP, fun y => absurd rfl y⟩
  have kD : ¬ (z.2.2.2 2).1 = -1 → ∀ b, b = mb ((z.2.2.2 1).1 = -1) → mRun (mSx g) (f_X7_copy g) P (40, [some (.inr (some 0)), some (.inl (nI 2)), some (.inl i), some (.inl (nI 1)), some (.inl j), some (.inl n), some (.inr (some 44)), some (.inr (some 42))], [.inl b], M) := fun w1 b hb => by
    refine v_copyD_44_42 g M P _ _ _ _ _ _ ?_
    rw [hb, a1]
    try rw [b1]
    rw [a2]
    by_cases h : (z.2.2.2 1).1 = -1
    · rw [if_pos (Or.inr h)] at hP
      rw [mb_t h]
      exact ⟨fun y => absurd y (by decide), fun _ => stay _ _ rfl hP⟩
    · have w : ¬ ((z.2.2.2 2).1 = -1 ∨ (z.2.2.2 1).1 = -1) := fun y => y.elim w1 h
      rw [mb_f h]
      refine ⟨fun _ => ⟨fun w2 => hold_cs b (A := True) (fun v => mRun (mSx g) (f_X7_copy g) P (70, [some (.inr (some 0)), some (.inl (nI 2)), some (.inl i), some (.inl (nI 1)), some (.inl j), some (.inl n), some (.inr (some 44)), some (.inr (some 42))], [.inl v], M)) (kE w w2) hz1, fun w2 => ?_⟩, fun y => absurd rfl y⟩
      rw [if_neg w, if_pos w2] at hP
      exact stay _ _ rfl hP
  have kC : ∀ b, b = mb ((z.2.2.2 2).1 = -1) → mRun (mSx g) (f_X7_copy g) P (32, [some (.inr (some 0)), some (.inl (nI 2)), some (.inl i), some (.inl (nI 1)), some (.inl j), some (.inl n), some (.inr (some 44)), some (.inr (some 42))], [.inl b], M) := fun b hb => by
    refine v_copyC_44_42 g M P _ _ _ _ _ _ ?_
    rw [hb, b1]
    by_cases h : (z.2.2.2 2).1 = -1
    · rw [if_pos (Or.inl h)] at hP
      rw [mb_t h]
      exact ⟨fun _ => stay _ _ rfl hP, fun y => absurd (by decide) y⟩
    · rw [mb_f h]
      exact ⟨fun y => absurd rfl y, fun _ => ⟨fun w => ⟨Or.inl rfl, kD h _ (mb_f w).symm⟩, fun w => ⟨Or.inr rfl, kD h _ (mb_t (Classical.not_not.mp w)).symm⟩⟩⟩
  refine v_copyB_44_42 g M P _ _ _ _ _ ?_
  rw [a1]
  exact ⟨fun w => ⟨Or.inl rfl, kC _ (mb_f w).symm⟩, fun w => ⟨Or.inr rfl, kC _ (mb_t (Classical.not_not.mp w)).symm⟩⟩
theorem v_copyB_44_44 (g : mG) (M : mM) (P : mP) (s i q j n : Int32)
    (h : (¬ (M 44 1) = (-1) → ((nI 0) = 0 ∨ (nI 0) = 1) ∧ (mRun (mSx g) (f_X7_copy g) P (32, [some (.inr (some 0)), some (.inl s), some (.inl i), some (.inl q), some (.inl j), some (.inl n), some (.inr (some 44)), some (.inr (some 44))], [.inl (nI 0)], M))) ∧ (¬ (¬ (M 44 1) = (-1)) → ((nI 1) = 0 ∨ (nI 1) = 1) ∧ (mRun (mSx g) (f_X7_copy g) P (32, [some (.inr (some 0)), some (.inl s), some (.inl i), some (.inl q), some (.inl j), some (.inl n), some (.inr (some 44)), some (.inr (some 44))], [.inl (nI 1)], M)))) :
    mRun (mSx g) (f_X7_copy g) P (12, [some (.inr (some 0)), some (.inl s), some (.inl i), some (.inl q), some (.inl j), some (.inl n), some (.inr (some 44)), none], [.inr (some 44)], M) := mRun.vc (m_X7_copy g) [32] 8 h

theorem v_copyC_44_44 (g : mG) (M : mM) (P : mP) (s i q j n : Int32) (b : Int32)
    (h : (¬ b = 0 → P (some (.inl (-11))) M) ∧ (¬ (¬ b = 0) → (¬ (M 44 1) = (-1) → ((nI 0) = 0 ∨ (nI 0) = 1) ∧ (mRun (mSx g) (f_X7_copy g) P (40, [some (.inr (some 0)), some (.inl s), some (.inl i), some (.inl q), some (.inl j), some (.inl n), some (.inr (some 44)), some (.inr (some 44))], [.inl (nI 0)], M))) ∧ (¬ (¬ (M 44 1) = (-1)) → ((nI 1) = 0 ∨ (nI 1) = 1) ∧ (mRun (mSx g) (f_X7_copy g) P (40, [some (.inr (some 0)), some (.inl s), some (.inl i), some (.inl q), some (.inl j), some (.inl n), some (.inr (some 44)), some (.inr (some 44))], [.inl (nI 1)], M))))) :
    mRun (mSx g) (f_X7_copy g) P (32, [some (.inr (some 0)), some (.inl s), some (.inl i), some (.inl q), some (.inl j), some (.inl n), some (.inr (some 44)), some (.inr (some 44))], [.inl b], M) := mRun.vc (m_X7_copy g) [40] 4 h

theorem v_copyD_44_44 (g : mG) (M : mM) (P : mP) (s i q j n : Int32) (b : Int32)
    (h : (b = 0 → ((M 44 1) = (M 44 1) → (i < 0 → ((nI 0) = 0 ∨ (nI 0) = 1) ∧ (mRun (mSx g) (f_X7_copy g) P (70, [some (.inr (some 0)), some (.inl s), some (.inl i), some (.inl q), some (.inl j), some (.inl n), some (.inr (some 44)), some (.inr (some 44))], [.inl (nI 0)], M))) ∧ (¬ (i < 0) → (n < 0 → ((nI 0) = 0 ∨ (nI 0) = 1) ∧ (mRun (mSx g) (f_X7_copy g) P (70, [some (.inr (some 0)), some (.inl s), some (.inl i), some (.inl q), some (.inl j), some (.inl n), some (.inr (some 44)), some (.inr (some 44))], [.inl (nI 0)], M))) ∧ (¬ (n < 0) → ((M 44 2) < n → ((nI 0) = 0 ∨ (nI 0) = 1) ∧ (mRun (mSx g) (f_X7_copy g) P (70, [some (.inr (some 0)), some (.inl s), some (.inl i), some (.inl q), some (.inl j), some (.inl n), some (.inr (some 44)), some (.inr (some 44))], [.inl (nI 0)], M))) ∧ (¬ ((M 44 2) < n) → (((M 44 2) - n) < i → ((nI 0) = 0 ∨ (nI 0) = 1) ∧ (mRun (mSx g) (f_X7_copy g) P (70, [some (.inr (some 0)), some (.inl s), some (.inl i), some (.inl q), some (.inl j), some (.inl n), some (.inr (some 44)), some (.inr (some 44))], [.inl (nI 0)], M))) ∧ (¬ (((M 44 2) - n) < i) → ((nI 1) = 0 ∨ (nI 1) = 1) ∧ (mRun (mSx g) (f_X7_copy g) P (70, [some (.inr (some 0)), some (.inl s), some (.inl i), some (.inl q), some (.inl j), some (.inl n), some (.inr (some 44)), some (.inr (some 44))], [.inl (nI 1)], M))))))) ∧ (¬ ((M 44 1) = (M 44 1)) → P (some (.inl (-13))) M)) ∧ (¬ (b = 0) → P (some (.inl (-11))) M)) :
    mRun (mSx g) (f_X7_copy g) P (40, [some (.inr (some 0)), some (.inl s), some (.inl i), some (.inl q), some (.inl j), some (.inl n), some (.inr (some 44)), some (.inr (some 44))], [.inl b], M) := mRun.vc (m_X7_copy g) [70] 11 h

theorem v_copyE_44_44 (g : mG) (M : mM) (P : mP) (s i q j n : Int32) (b : Int32)
    (h : (b = 0 → P (some (.inl (-12))) M) ∧ (¬ (b = 0) → (j < 0 → ((nI 0) = 0 ∨ (nI 0) = 1) ∧ (mRun (mSx g) (f_X7_copy g) P (82, [some (.inr (some 0)), some (.inl s), some (.inl i), some (.inl q), some (.inl j), some (.inl n), some (.inr (some 44)), some (.inr (some 44))], [.inl (nI 0)], M))) ∧ (¬ (j < 0) → (n < 0 → ((nI 0) = 0 ∨ (nI 0) = 1) ∧ (mRun (mSx g) (f_X7_copy g) P (82, [some (.inr (some 0)), some (.inl s), some (.inl i), some (.inl q), some (.inl j), some (.inl n), some (.inr (some 44)), some (.inr (some 44))], [.inl (nI 0)], M))) ∧ (¬ (n < 0) → ((M 44 2) < n → ((nI 0) = 0 ∨ (nI 0) = 1) ∧ (mRun (mSx g) (f_X7_copy g) P (82, [some (.inr (some 0)), some (.inl s), some (.inl i), some (.inl q), some (.inl j), some (.inl n), some (.inr (some 44)), some (.inr (some 44))], [.inl (nI 0)], M))) ∧ (¬ ((M 44 2) < n) → (((M 44 2) - n) < j → ((nI 0) = 0 ∨ (nI 0) = 1) ∧ (mRun (mSx g) (f_X7_copy g) P (82, [some (.inr (some 0)), some (.inl s), some (.inl i), some (.inl q), some (.inl j), some (.inl n), some (.inr (some 44)), some (.inr (some 44))], [.inl (nI 0)], M))) ∧ (¬ (((M 44 2) - n) < j) → ((nI 1) = 0 ∨ (nI 1) = 1) ∧ (mRun (mSx g) (f_X7_copy g) P (82, [some (.inr (some 0)), some (.inl s), some (.inl i), some (.inl q), some (.inl j), some (.inl n), some (.inr (some 44)), some (.inr (some 44))], [.inl (nI 1)], M)))))))) :
    mRun (mSx g) (f_X7_copy g) P (70, [some (.inr (some 0)), some (.inl s), some (.inl i), some (.inl q), some (.inl j), some (.inl n), some (.inr (some 44)), some (.inr (some 44))], [.inl b], M) := mRun.vc (m_X7_copy g) [82] 6 h

theorem v_copyF_44_44 (g : mG) (M : mM) (P : mP) (s i q j n : Int32) (b : Int32)
    (h : (¬ b = 0 → ∃ n2 n3 : Nat, (∃ ra, (mSx g)[45]? = some (0, n2, ra)) ∧ (∃ rb, (mSx g)[45]? = some (0, n3, rb)) ∧ ¬ i < 0 ∧ ¬ j < 0 ∧ ¬ n < 0 ∧ i.toNatClampNeg + n.toNatClampNeg ≤ n2 ∧ j.toNatClampNeg + n.toNatClampNeg ≤ n3 ∧ (let M6 : mM := mUp M 45 (va_cpy (M 45) (M 45) i.toNatClampNeg j.toNatClampNeg n.toNatClampNeg); P (some (.inl n)) M6)) ∧ (¬ (¬ b = 0) → P (some (.inl (-12))) M)) :
    mRun (mSx g) (f_X7_copy g) P (82, [some (.inr (some 0)), some (.inl s), some (.inl i), some (.inl q), some (.inl j), some (.inl n), some (.inr (some 44)), some (.inr (some 44))], [.inl b], M) := mRun.vc (m_X7_copy g) [] 11 h

theorem copy_run_44_44 (g : mG) (M : mM) (P : mP) (z : aZ) (i j n : Int32) (hR : RpC M z) (hI : zInv z) (hP : pubP M P (F_copy z [nI 2, i, nI 2, j, n])) :
    mRun (mSx g) (f_X7_copy g) P (12, [some (.inr (some 0)), some (.inl (nI 2)), some (.inl i), some (.inl (nI 2)), some (.inl j), some (.inl n), some (.inr (some 44)), none], [.inr (some 44)], M) := by
  have hc : F_copy z [nI 2, i, nI 2, j, n] = if (z.2.2.2 2).1 = -1 ∨ (z.2.2.2 2).1 = -1 then (-11, z) else if ¬ (z.2.2.2 2).1 = (z.2.2.2 2).1 then (-13, z) else if dHld (z.2.2.2 2).2.1 i n = true ∧ dHld (z.2.2.2 2).2.1 j n = true then (n, zS z 2 ((z.2.2.2 2).1, (z.2.2.2 2).2.1, va_cpy (z.2.2.2 2).2.2 (z.2.2.2 2).2.2 (ub i) (ub j) (ub n))) else (-12, z) := rfl
  rw [hc] at hP
  have hz1 := (hI.2.2.2 2 (by decide)).2.1
  have hz2 := (hI.2.2.2 2 (by decide)).2.1
  have hS1 := hR.2.2.2.2.1 2 (by decide)
  have hS2 := hR.2.2.2.2.1 2 (by decide)
  have a1 : M 44 1 = (z.2.2.2 2).1 := hS1.1
  have a2 : M 44 2 = nI (z.2.2.2 2).2.1 := hS1.2.1
  have b1 : M 44 1 = (z.2.2.2 2).1 := hS2.1
  have b2 : M 44 2 = nI (z.2.2.2 2).2.1 := hS2.2.1
  have stay : ∀ v w : Int32, v = w → pubP M P (w, z) → P (some (.inl v)) M := fun v w e h => h v M e hR FrC.refl
  have kF : ¬ ((z.2.2.2 2).1 = -1 ∨ (z.2.2.2 2).1 = -1) → (z.2.2.2 2).1 = (z.2.2.2 2).1 → dHld (z.2.2.2 2).2.1 i n = true → ∀ b, b = mb (dHld (z.2.2.2 2).2.1 j n = true) → mRun (mSx g) (f_X7_copy g) P (82, [some (.inr (some 0)), some (.inl (nI 2)), some (.inl i), some (.inl (nI 2)), some (.inl j), some (.inl n), some (.inr (some 44)), some (.inr (some 44))], [.inl b], M) := fun w1 w2 w3 b hb => by
    rw [if_neg w1, if_neg (fun y => y w2)] at hP
    refine v_copyF_44_44 g M P _ _ _ _ _ _ ?_
    rw [hb]
    by_cases h : dHld (z.2.2.2 2).2.1 j n = true
    · rw [if_pos ⟨w3, h⟩] at hP
      rw [mb_t h]
      refine ⟨fun _ => ?_, fun y => absurd (by decide) y⟩
      obtain ⟨a, m, rfl, rfl, ham⟩ := dHld_t hz1 w3
      obtain ⟨b, m', rfl, hm', hbm⟩ := dHld_t hz2 h
      have hlen : m ≤ 40 ∧ m' ≤ 40 := ⟨by omega, by omega⟩
      obtain rfl : m = m' := by
        have := congrArg Int32.toInt hm'
        rw [nI_toInt (by omega), nI_toInt (by omega)] at this
        omega
      rw [ub_nI (by omega), ub_nI (by omega), ub_nI (by omega)] at hP
      have ca : (nI a).toNatClampNeg = a := nI_clamp (by omega)
      have cb : (nI b).toNatClampNeg = b := nI_clamp (by omega)
      have cm : (nI m).toNatClampNeg = m := nI_clamp (by omega)
      refine ⟨40, 40, ⟨_, mSx_at rfl⟩, ⟨_, mSx_at rfl⟩, nI_pos (by omega), nI_pos (by omega), nI_pos (by omega), by rw [ca, cm]; omega, by rw [cb, cm]; omega, ?_⟩
      rw [ca, cb, cm]
      intro M2
      refine hP _ M2 rfl (RpC_sheet hR (by decide) ⟨?_, ?_, fun y hy => ?_⟩ (fun d h1 h2 => mUp_ne h2)) (fun d h1 => mUp_ne (by omega))
      · show mUp M 45 _ 44 1 = _
        rw [mUp_ne (by decide)]
        exact b1
      · show mUp M 45 _ 44 2 = _
        rw [mUp_ne (by decide)]
        exact b2
      · show mUp M 45 _ 45 y = shC (z.2.2.2 2).1 (va_cpy (z.2.2.2 2).2.2 (z.2.2.2 2).2.2 a b m y)
        rw [mUp_at]
        by_cases hy2 : b ≤ y ∧ y < b + m
        · rw [pk_cpy_in hy2.1 hy2.2, pk_cpy_in hy2.1 hy2.2, ← w2]
          exact hS1.2.2 _ (by omega)
        · rw [pk_cpy_out (by omega), pk_cpy_out (by omega)]
          exact hS2.2.2 y hy
    · rw [if_neg (fun y => h y.2)] at hP
      rw [mb_f h]
      exact ⟨fun y => absurd rfl y, fun _ => stay _ _ rfl hP⟩
  have kE : ¬ ((z.2.2.2 2).1 = -1 ∨ (z.2.2.2 2).1 = -1) → (z.2.2.2 2).1 = (z.2.2.2 2).1 → ∀ b, b = mb (dHld (z.2.2.2 2).2.1 i n = true) → mRun (mSx g) (f_X7_copy g) P (70, [some (.inr (some 0)), some (.inl (nI 2)), some (.inl i), some (.inl (nI 2)), some (.inl j), some (.inl n), some (.inr (some 44)), some (.inr (some 44))], [.inl b], M) := fun w1 w2 b hb => by
    refine v_copyE_44_44 g M P _ _ _ _ _ _ ?_
    rw [hb, b2]
    by_cases h : dHld (z.2.2.2 2).2.1 i n = true
    · rw [mb_t h]
      exact ⟨fun y => absurd y (by decide), fun _ => hold_cs b (A := True) (fun v => mRun (mSx g) (f_X7_copy g) P (82, [some (.inr (some 0)), some (.inl (nI 2)), some (.inl i), some (.inl (nI 2)), some (.inl j), some (.inl n), some (.inr (some 44)), some (.inr (some 44))], [.inl v], M)) (kF w1 w2 h) hz2⟩
    · rw [if_neg w1, if_neg (fun y => y w2), if_neg (fun y => h y.1)] at hP
      rw [mb_f h]
      exact ⟨fun _ => stay _ _ rfl hP, fun y => absurd rfl y⟩
  have kD : ¬ (z.2.2.2 2).1 = -1 → ∀ b, b = mb ((z.2.2.2 2).1 = -1) → mRun (mSx g) (f_X7_copy g) P (40, [some (.inr (some 0)), some (.inl (nI 2)), some (.inl i), some (.inl (nI 2)), some (.inl j), some (.inl n), some (.inr (some 44)), some (.inr (some 44))], [.inl b], M) := fun w1 b hb => by
    refine v_copyD_44_44 g M P _ _ _ _ _ _ ?_
    rw [hb, a1]
    try rw [b1]
    rw [a2]
    by_cases h : (z.2.2.2 2).1 = -1
    · rw [if_pos (Or.inr h)] at hP
      rw [mb_t h]
      exact ⟨fun y => absurd y (by decide), fun _ => stay _ _ rfl hP⟩
    · have w : ¬ ((z.2.2.2 2).1 = -1 ∨ (z.2.2.2 2).1 = -1) := fun y => y.elim w1 h
      rw [mb_f h]
      refine ⟨fun _ => ⟨fun w2 => hold_cs b (A := True) (fun v => mRun (mSx g) (f_X7_copy g) P (70, [some (.inr (some 0)), some (.inl (nI 2)), some (.inl i), some (.inl (nI 2)), some (.inl j), some (.inl n), some (.inr (some 44)), some (.inr (some 44))], [.inl v], M)) (kE w w2) hz1, fun w2 => ?_⟩, fun y => absurd rfl y⟩
      rw [if_neg w, if_pos w2] at hP
      exact stay _ _ rfl hP
  have kC : ∀ b, b = mb ((z.2.2.2 2).1 = -1) → mRun (mSx g) (f_X7_copy g) P (32, [some (.inr (some 0)), some (.inl (nI 2)), some (.inl i), some (.inl (nI 2)), some (.inl j), some (.inl n), some (.inr (some 44)), some (.inr (some 44))], [.inl b], M) := fun b hb => by
    refine v_copyC_44_44 g M P _ _ _ _ _ _ ?_
    rw [hb, b1]
    by_cases h : (z.2.2.2 2).1 = -1
    · rw [if_pos (Or.inl h)] at hP
      rw [mb_t h]
      exact ⟨fun _ => stay _ _ rfl hP, fun y => absurd (by decide) y⟩
    · rw [mb_f h]
      exact ⟨fun y => absurd rfl y, fun _ => ⟨fun w => ⟨Or.inl rfl, kD h _ (mb_f w).symm⟩, fun w => ⟨Or.inr rfl, kD h _ (mb_t (Classical.not_not.mp w)).symm⟩⟩⟩
  refine v_copyB_44_44 g M P _ _ _ _ _ ?_
  rw [a1]
  exact ⟨fun w => ⟨Or.inl rfl, kC _ (mb_f w).symm⟩, fun w => ⟨Or.inr rfl, kC _ (mb_t (Classical.not_not.mp w)).symm⟩⟩
theorem v_copyB_44_46 (g : mG) (M : mM) (P : mP) (s i q j n : Int32)
    (h : (¬ (M 44 1) = (-1) → ((nI 0) = 0 ∨ (nI 0) = 1) ∧ (mRun (mSx g) (f_X7_copy g) P (32, [some (.inr (some 0)), some (.inl s), some (.inl i), some (.inl q), some (.inl j), some (.inl n), some (.inr (some 44)), some (.inr (some 46))], [.inl (nI 0)], M))) ∧ (¬ (¬ (M 44 1) = (-1)) → ((nI 1) = 0 ∨ (nI 1) = 1) ∧ (mRun (mSx g) (f_X7_copy g) P (32, [some (.inr (some 0)), some (.inl s), some (.inl i), some (.inl q), some (.inl j), some (.inl n), some (.inr (some 44)), some (.inr (some 46))], [.inl (nI 1)], M)))) :
    mRun (mSx g) (f_X7_copy g) P (12, [some (.inr (some 0)), some (.inl s), some (.inl i), some (.inl q), some (.inl j), some (.inl n), some (.inr (some 44)), none], [.inr (some 46)], M) := mRun.vc (m_X7_copy g) [32] 8 h

theorem v_copyC_44_46 (g : mG) (M : mM) (P : mP) (s i q j n : Int32) (b : Int32)
    (h : (¬ b = 0 → P (some (.inl (-11))) M) ∧ (¬ (¬ b = 0) → (¬ (M 46 1) = (-1) → ((nI 0) = 0 ∨ (nI 0) = 1) ∧ (mRun (mSx g) (f_X7_copy g) P (40, [some (.inr (some 0)), some (.inl s), some (.inl i), some (.inl q), some (.inl j), some (.inl n), some (.inr (some 44)), some (.inr (some 46))], [.inl (nI 0)], M))) ∧ (¬ (¬ (M 46 1) = (-1)) → ((nI 1) = 0 ∨ (nI 1) = 1) ∧ (mRun (mSx g) (f_X7_copy g) P (40, [some (.inr (some 0)), some (.inl s), some (.inl i), some (.inl q), some (.inl j), some (.inl n), some (.inr (some 44)), some (.inr (some 46))], [.inl (nI 1)], M))))) :
    mRun (mSx g) (f_X7_copy g) P (32, [some (.inr (some 0)), some (.inl s), some (.inl i), some (.inl q), some (.inl j), some (.inl n), some (.inr (some 44)), some (.inr (some 46))], [.inl b], M) := mRun.vc (m_X7_copy g) [40] 4 h

theorem v_copyD_44_46 (g : mG) (M : mM) (P : mP) (s i q j n : Int32) (b : Int32)
    (h : (b = 0 → ((M 44 1) = (M 46 1) → (i < 0 → ((nI 0) = 0 ∨ (nI 0) = 1) ∧ (mRun (mSx g) (f_X7_copy g) P (70, [some (.inr (some 0)), some (.inl s), some (.inl i), some (.inl q), some (.inl j), some (.inl n), some (.inr (some 44)), some (.inr (some 46))], [.inl (nI 0)], M))) ∧ (¬ (i < 0) → (n < 0 → ((nI 0) = 0 ∨ (nI 0) = 1) ∧ (mRun (mSx g) (f_X7_copy g) P (70, [some (.inr (some 0)), some (.inl s), some (.inl i), some (.inl q), some (.inl j), some (.inl n), some (.inr (some 44)), some (.inr (some 46))], [.inl (nI 0)], M))) ∧ (¬ (n < 0) → ((M 44 2) < n → ((nI 0) = 0 ∨ (nI 0) = 1) ∧ (mRun (mSx g) (f_X7_copy g) P (70, [some (.inr (some 0)), some (.inl s), some (.inl i), some (.inl q), some (.inl j), some (.inl n), some (.inr (some 44)), some (.inr (some 46))], [.inl (nI 0)], M))) ∧ (¬ ((M 44 2) < n) → (((M 44 2) - n) < i → ((nI 0) = 0 ∨ (nI 0) = 1) ∧ (mRun (mSx g) (f_X7_copy g) P (70, [some (.inr (some 0)), some (.inl s), some (.inl i), some (.inl q), some (.inl j), some (.inl n), some (.inr (some 44)), some (.inr (some 46))], [.inl (nI 0)], M))) ∧ (¬ (((M 44 2) - n) < i) → ((nI 1) = 0 ∨ (nI 1) = 1) ∧ (mRun (mSx g) (f_X7_copy g) P (70, [some (.inr (some 0)), some (.inl s), some (.inl i), some (.inl q), some (.inl j), some (.inl n), some (.inr (some 44)), some (.inr (some 46))], [.inl (nI 1)], M))))))) ∧ (¬ ((M 44 1) = (M 46 1)) → P (some (.inl (-13))) M)) ∧ (¬ (b = 0) → P (some (.inl (-11))) M)) :
    mRun (mSx g) (f_X7_copy g) P (40, [some (.inr (some 0)), some (.inl s), some (.inl i), some (.inl q), some (.inl j), some (.inl n), some (.inr (some 44)), some (.inr (some 46))], [.inl b], M) := mRun.vc (m_X7_copy g) [70] 11 h

theorem v_copyE_44_46 (g : mG) (M : mM) (P : mP) (s i q j n : Int32) (b : Int32)
    (h : (b = 0 → P (some (.inl (-12))) M) ∧ (¬ (b = 0) → (j < 0 → ((nI 0) = 0 ∨ (nI 0) = 1) ∧ (mRun (mSx g) (f_X7_copy g) P (82, [some (.inr (some 0)), some (.inl s), some (.inl i), some (.inl q), some (.inl j), some (.inl n), some (.inr (some 44)), some (.inr (some 46))], [.inl (nI 0)], M))) ∧ (¬ (j < 0) → (n < 0 → ((nI 0) = 0 ∨ (nI 0) = 1) ∧ (mRun (mSx g) (f_X7_copy g) P (82, [some (.inr (some 0)), some (.inl s), some (.inl i), some (.inl q), some (.inl j), some (.inl n), some (.inr (some 44)), some (.inr (some 46))], [.inl (nI 0)], M))) ∧ (¬ (n < 0) → ((M 46 2) < n → ((nI 0) = 0 ∨ (nI 0) = 1) ∧ (mRun (mSx g) (f_X7_copy g) P (82, [some (.inr (some 0)), some (.inl s), some (.inl i), some (.inl q), some (.inl j), some (.inl n), some (.inr (some 44)), some (.inr (some 46))], [.inl (nI 0)], M))) ∧ (¬ ((M 46 2) < n) → (((M 46 2) - n) < j → ((nI 0) = 0 ∨ (nI 0) = 1) ∧ (mRun (mSx g) (f_X7_copy g) P (82, [some (.inr (some 0)), some (.inl s), some (.inl i), some (.inl q), some (.inl j), some (.inl n), some (.inr (some 44)), some (.inr (some 46))], [.inl (nI 0)], M))) ∧ (¬ (((M 46 2) - n) < j) → ((nI 1) = 0 ∨ (nI 1) = 1) ∧ (mRun (mSx g) (f_X7_copy g) P (82, [some (.inr (some 0)), some (.inl s), some (.inl i), some (.inl q), some (.inl j), some (.inl n), some (.inr (some 44)), some (.inr (some 46))], [.inl (nI 1)], M)))))))) :
    mRun (mSx g) (f_X7_copy g) P (70, [some (.inr (some 0)), some (.inl s), some (.inl i), some (.inl q), some (.inl j), some (.inl n), some (.inr (some 44)), some (.inr (some 46))], [.inl b], M) := mRun.vc (m_X7_copy g) [82] 6 h

theorem v_copyF_44_46 (g : mG) (M : mM) (P : mP) (s i q j n : Int32) (b : Int32)
    (h : (¬ b = 0 → ∃ n2 n3 : Nat, (∃ ra, (mSx g)[45]? = some (0, n2, ra)) ∧ (∃ rb, (mSx g)[47]? = some (0, n3, rb)) ∧ ¬ i < 0 ∧ ¬ j < 0 ∧ ¬ n < 0 ∧ i.toNatClampNeg + n.toNatClampNeg ≤ n2 ∧ j.toNatClampNeg + n.toNatClampNeg ≤ n3 ∧ (let M6 : mM := mUp M 47 (va_cpy (M 45) (M 47) i.toNatClampNeg j.toNatClampNeg n.toNatClampNeg); P (some (.inl n)) M6)) ∧ (¬ (¬ b = 0) → P (some (.inl (-12))) M)) :
    mRun (mSx g) (f_X7_copy g) P (82, [some (.inr (some 0)), some (.inl s), some (.inl i), some (.inl q), some (.inl j), some (.inl n), some (.inr (some 44)), some (.inr (some 46))], [.inl b], M) := mRun.vc (m_X7_copy g) [] 11 h

theorem copy_run_44_46 (g : mG) (M : mM) (P : mP) (z : aZ) (i j n : Int32) (hR : RpC M z) (hI : zInv z) (hP : pubP M P (F_copy z [nI 2, i, nI 3, j, n])) :
    mRun (mSx g) (f_X7_copy g) P (12, [some (.inr (some 0)), some (.inl (nI 2)), some (.inl i), some (.inl (nI 3)), some (.inl j), some (.inl n), some (.inr (some 44)), none], [.inr (some 46)], M) := by
  have hc : F_copy z [nI 2, i, nI 3, j, n] = if (z.2.2.2 2).1 = -1 ∨ (z.2.2.2 3).1 = -1 then (-11, z) else if ¬ (z.2.2.2 2).1 = (z.2.2.2 3).1 then (-13, z) else if dHld (z.2.2.2 2).2.1 i n = true ∧ dHld (z.2.2.2 3).2.1 j n = true then (n, zS z 3 ((z.2.2.2 3).1, (z.2.2.2 3).2.1, va_cpy (z.2.2.2 2).2.2 (z.2.2.2 3).2.2 (ub i) (ub j) (ub n))) else (-12, z) := rfl
  rw [hc] at hP
  have hz1 := (hI.2.2.2 2 (by decide)).2.1
  have hz2 := (hI.2.2.2 3 (by decide)).2.1
  have hS1 := hR.2.2.2.2.1 2 (by decide)
  have hS2 := hR.2.2.2.2.1 3 (by decide)
  have a1 : M 44 1 = (z.2.2.2 2).1 := hS1.1
  have a2 : M 44 2 = nI (z.2.2.2 2).2.1 := hS1.2.1
  have b1 : M 46 1 = (z.2.2.2 3).1 := hS2.1
  have b2 : M 46 2 = nI (z.2.2.2 3).2.1 := hS2.2.1
  have stay : ∀ v w : Int32, v = w → pubP M P (w, z) → P (some (.inl v)) M := fun v w e h => h v M e hR FrC.refl
  have kF : ¬ ((z.2.2.2 2).1 = -1 ∨ (z.2.2.2 3).1 = -1) → (z.2.2.2 2).1 = (z.2.2.2 3).1 → dHld (z.2.2.2 2).2.1 i n = true → ∀ b, b = mb (dHld (z.2.2.2 3).2.1 j n = true) → mRun (mSx g) (f_X7_copy g) P (82, [some (.inr (some 0)), some (.inl (nI 2)), some (.inl i), some (.inl (nI 3)), some (.inl j), some (.inl n), some (.inr (some 44)), some (.inr (some 46))], [.inl b], M) := fun w1 w2 w3 b hb => by
    rw [if_neg w1, if_neg (fun y => y w2)] at hP
    refine v_copyF_44_46 g M P _ _ _ _ _ _ ?_
    rw [hb]
    by_cases h : dHld (z.2.2.2 3).2.1 j n = true
    · rw [if_pos ⟨w3, h⟩] at hP
      rw [mb_t h]
      refine ⟨fun _ => ?_, fun y => absurd (by decide) y⟩
      obtain ⟨a, m, rfl, rfl, ham⟩ := dHld_t hz1 w3
      obtain ⟨b, m', rfl, hm', hbm⟩ := dHld_t hz2 h
      have hlen : m ≤ 40 ∧ m' ≤ 40 := ⟨by omega, by omega⟩
      obtain rfl : m = m' := by
        have := congrArg Int32.toInt hm'
        rw [nI_toInt (by omega), nI_toInt (by omega)] at this
        omega
      rw [ub_nI (by omega), ub_nI (by omega), ub_nI (by omega)] at hP
      have ca : (nI a).toNatClampNeg = a := nI_clamp (by omega)
      have cb : (nI b).toNatClampNeg = b := nI_clamp (by omega)
      have cm : (nI m).toNatClampNeg = m := nI_clamp (by omega)
      refine ⟨40, 40, ⟨_, mSx_at rfl⟩, ⟨_, mSx_at rfl⟩, nI_pos (by omega), nI_pos (by omega), nI_pos (by omega), by rw [ca, cm]; omega, by rw [cb, cm]; omega, ?_⟩
      rw [ca, cb, cm]
      intro M2
      refine hP _ M2 rfl (RpC_sheet hR (by decide) ⟨?_, ?_, fun y hy => ?_⟩ (fun d h1 h2 => mUp_ne h2)) (fun d h1 => mUp_ne (by omega))
      · show mUp M 47 _ 46 1 = _
        rw [mUp_ne (by decide)]
        exact b1
      · show mUp M 47 _ 46 2 = _
        rw [mUp_ne (by decide)]
        exact b2
      · show mUp M 47 _ 47 y = shC (z.2.2.2 3).1 (va_cpy (z.2.2.2 2).2.2 (z.2.2.2 3).2.2 a b m y)
        rw [mUp_at]
        by_cases hy2 : b ≤ y ∧ y < b + m
        · rw [pk_cpy_in hy2.1 hy2.2, pk_cpy_in hy2.1 hy2.2, ← w2]
          exact hS1.2.2 _ (by omega)
        · rw [pk_cpy_out (by omega), pk_cpy_out (by omega)]
          exact hS2.2.2 y hy
    · rw [if_neg (fun y => h y.2)] at hP
      rw [mb_f h]
      exact ⟨fun y => absurd rfl y, fun _ => stay _ _ rfl hP⟩
  have kE : ¬ ((z.2.2.2 2).1 = -1 ∨ (z.2.2.2 3).1 = -1) → (z.2.2.2 2).1 = (z.2.2.2 3).1 → ∀ b, b = mb (dHld (z.2.2.2 2).2.1 i n = true) → mRun (mSx g) (f_X7_copy g) P (70, [some (.inr (some 0)), some (.inl (nI 2)), some (.inl i), some (.inl (nI 3)), some (.inl j), some (.inl n), some (.inr (some 44)), some (.inr (some 46))], [.inl b], M) := fun w1 w2 b hb => by
    refine v_copyE_44_46 g M P _ _ _ _ _ _ ?_
    rw [hb, b2]
    by_cases h : dHld (z.2.2.2 2).2.1 i n = true
    · rw [mb_t h]
      exact ⟨fun y => absurd y (by decide), fun _ => hold_cs b (A := True) (fun v => mRun (mSx g) (f_X7_copy g) P (82, [some (.inr (some 0)), some (.inl (nI 2)), some (.inl i), some (.inl (nI 3)), some (.inl j), some (.inl n), some (.inr (some 44)), some (.inr (some 46))], [.inl v], M)) (kF w1 w2 h) hz2⟩
    · rw [if_neg w1, if_neg (fun y => y w2), if_neg (fun y => h y.1)] at hP
      rw [mb_f h]
      exact ⟨fun _ => stay _ _ rfl hP, fun y => absurd rfl y⟩
  have kD : ¬ (z.2.2.2 2).1 = -1 → ∀ b, b = mb ((z.2.2.2 3).1 = -1) → mRun (mSx g) (f_X7_copy g) P (40, [some (.inr (some 0)), some (.inl (nI 2)), some (.inl i), some (.inl (nI 3)), some (.inl j), some (.inl n), some (.inr (some 44)), some (.inr (some 46))], [.inl b], M) := fun w1 b hb => by
    refine v_copyD_44_46 g M P _ _ _ _ _ _ ?_
    rw [hb, a1]
    try rw [b1]
    rw [a2]
    by_cases h : (z.2.2.2 3).1 = -1
    · rw [if_pos (Or.inr h)] at hP
      rw [mb_t h]
      exact ⟨fun y => absurd y (by decide), fun _ => stay _ _ rfl hP⟩
    · have w : ¬ ((z.2.2.2 2).1 = -1 ∨ (z.2.2.2 3).1 = -1) := fun y => y.elim w1 h
      rw [mb_f h]
      refine ⟨fun _ => ⟨fun w2 => hold_cs b (A := True) (fun v => mRun (mSx g) (f_X7_copy g) P (70, [some (.inr (some 0)), some (.inl (nI 2)), some (.inl i), some (.inl (nI 3)), some (.inl j), some (.inl n), some (.inr (some 44)), some (.inr (some 46))], [.inl v], M)) (kE w w2) hz1, fun w2 => ?_⟩, fun y => absurd rfl y⟩
      rw [if_neg w, if_pos w2] at hP
      exact stay _ _ rfl hP
  have kC : ∀ b, b = mb ((z.2.2.2 2).1 = -1) → mRun (mSx g) (f_X7_copy g) P (32, [some (.inr (some 0)), some (.inl (nI 2)), some (.inl i), some (.inl (nI 3)), some (.inl j), some (.inl n), some (.inr (some 44)), some (.inr (some 46))], [.inl b], M) := fun b hb => by
    refine v_copyC_44_46 g M P _ _ _ _ _ _ ?_
    rw [hb, b1]
    by_cases h : (z.2.2.2 2).1 = -1
    · rw [if_pos (Or.inl h)] at hP
      rw [mb_t h]
      exact ⟨fun _ => stay _ _ rfl hP, fun y => absurd (by decide) y⟩
    · rw [mb_f h]
      exact ⟨fun y => absurd rfl y, fun _ => ⟨fun w => ⟨Or.inl rfl, kD h _ (mb_f w).symm⟩, fun w => ⟨Or.inr rfl, kD h _ (mb_t (Classical.not_not.mp w)).symm⟩⟩⟩
  refine v_copyB_44_46 g M P _ _ _ _ _ ?_
  rw [a1]
  exact ⟨fun w => ⟨Or.inl rfl, kC _ (mb_f w).symm⟩, fun w => ⟨Or.inr rfl, kC _ (mb_t (Classical.not_not.mp w)).symm⟩⟩
theorem v_copyB_46_40 (g : mG) (M : mM) (P : mP) (s i q j n : Int32)
    (h : (¬ (M 46 1) = (-1) → ((nI 0) = 0 ∨ (nI 0) = 1) ∧ (mRun (mSx g) (f_X7_copy g) P (32, [some (.inr (some 0)), some (.inl s), some (.inl i), some (.inl q), some (.inl j), some (.inl n), some (.inr (some 46)), some (.inr (some 40))], [.inl (nI 0)], M))) ∧ (¬ (¬ (M 46 1) = (-1)) → ((nI 1) = 0 ∨ (nI 1) = 1) ∧ (mRun (mSx g) (f_X7_copy g) P (32, [some (.inr (some 0)), some (.inl s), some (.inl i), some (.inl q), some (.inl j), some (.inl n), some (.inr (some 46)), some (.inr (some 40))], [.inl (nI 1)], M)))) :
    mRun (mSx g) (f_X7_copy g) P (12, [some (.inr (some 0)), some (.inl s), some (.inl i), some (.inl q), some (.inl j), some (.inl n), some (.inr (some 46)), none], [.inr (some 40)], M) := mRun.vc (m_X7_copy g) [32] 8 h

theorem v_copyC_46_40 (g : mG) (M : mM) (P : mP) (s i q j n : Int32) (b : Int32)
    (h : (¬ b = 0 → P (some (.inl (-11))) M) ∧ (¬ (¬ b = 0) → (¬ (M 40 1) = (-1) → ((nI 0) = 0 ∨ (nI 0) = 1) ∧ (mRun (mSx g) (f_X7_copy g) P (40, [some (.inr (some 0)), some (.inl s), some (.inl i), some (.inl q), some (.inl j), some (.inl n), some (.inr (some 46)), some (.inr (some 40))], [.inl (nI 0)], M))) ∧ (¬ (¬ (M 40 1) = (-1)) → ((nI 1) = 0 ∨ (nI 1) = 1) ∧ (mRun (mSx g) (f_X7_copy g) P (40, [some (.inr (some 0)), some (.inl s), some (.inl i), some (.inl q), some (.inl j), some (.inl n), some (.inr (some 46)), some (.inr (some 40))], [.inl (nI 1)], M))))) :
    mRun (mSx g) (f_X7_copy g) P (32, [some (.inr (some 0)), some (.inl s), some (.inl i), some (.inl q), some (.inl j), some (.inl n), some (.inr (some 46)), some (.inr (some 40))], [.inl b], M) := mRun.vc (m_X7_copy g) [40] 4 h

theorem v_copyD_46_40 (g : mG) (M : mM) (P : mP) (s i q j n : Int32) (b : Int32)
    (h : (b = 0 → ((M 46 1) = (M 40 1) → (i < 0 → ((nI 0) = 0 ∨ (nI 0) = 1) ∧ (mRun (mSx g) (f_X7_copy g) P (70, [some (.inr (some 0)), some (.inl s), some (.inl i), some (.inl q), some (.inl j), some (.inl n), some (.inr (some 46)), some (.inr (some 40))], [.inl (nI 0)], M))) ∧ (¬ (i < 0) → (n < 0 → ((nI 0) = 0 ∨ (nI 0) = 1) ∧ (mRun (mSx g) (f_X7_copy g) P (70, [some (.inr (some 0)), some (.inl s), some (.inl i), some (.inl q), some (.inl j), some (.inl n), some (.inr (some 46)), some (.inr (some 40))], [.inl (nI 0)], M))) ∧ (¬ (n < 0) → ((M 46 2) < n → ((nI 0) = 0 ∨ (nI 0) = 1) ∧ (mRun (mSx g) (f_X7_copy g) P (70, [some (.inr (some 0)), some (.inl s), some (.inl i), some (.inl q), some (.inl j), some (.inl n), some (.inr (some 46)), some (.inr (some 40))], [.inl (nI 0)], M))) ∧ (¬ ((M 46 2) < n) → (((M 46 2) - n) < i → ((nI 0) = 0 ∨ (nI 0) = 1) ∧ (mRun (mSx g) (f_X7_copy g) P (70, [some (.inr (some 0)), some (.inl s), some (.inl i), some (.inl q), some (.inl j), some (.inl n), some (.inr (some 46)), some (.inr (some 40))], [.inl (nI 0)], M))) ∧ (¬ (((M 46 2) - n) < i) → ((nI 1) = 0 ∨ (nI 1) = 1) ∧ (mRun (mSx g) (f_X7_copy g) P (70, [some (.inr (some 0)), some (.inl s), some (.inl i), some (.inl q), some (.inl j), some (.inl n), some (.inr (some 46)), some (.inr (some 40))], [.inl (nI 1)], M))))))) ∧ (¬ ((M 46 1) = (M 40 1)) → P (some (.inl (-13))) M)) ∧ (¬ (b = 0) → P (some (.inl (-11))) M)) :
    mRun (mSx g) (f_X7_copy g) P (40, [some (.inr (some 0)), some (.inl s), some (.inl i), some (.inl q), some (.inl j), some (.inl n), some (.inr (some 46)), some (.inr (some 40))], [.inl b], M) := mRun.vc (m_X7_copy g) [70] 11 h

theorem v_copyE_46_40 (g : mG) (M : mM) (P : mP) (s i q j n : Int32) (b : Int32)
    (h : (b = 0 → P (some (.inl (-12))) M) ∧ (¬ (b = 0) → (j < 0 → ((nI 0) = 0 ∨ (nI 0) = 1) ∧ (mRun (mSx g) (f_X7_copy g) P (82, [some (.inr (some 0)), some (.inl s), some (.inl i), some (.inl q), some (.inl j), some (.inl n), some (.inr (some 46)), some (.inr (some 40))], [.inl (nI 0)], M))) ∧ (¬ (j < 0) → (n < 0 → ((nI 0) = 0 ∨ (nI 0) = 1) ∧ (mRun (mSx g) (f_X7_copy g) P (82, [some (.inr (some 0)), some (.inl s), some (.inl i), some (.inl q), some (.inl j), some (.inl n), some (.inr (some 46)), some (.inr (some 40))], [.inl (nI 0)], M))) ∧ (¬ (n < 0) → ((M 40 2) < n → ((nI 0) = 0 ∨ (nI 0) = 1) ∧ (mRun (mSx g) (f_X7_copy g) P (82, [some (.inr (some 0)), some (.inl s), some (.inl i), some (.inl q), some (.inl j), some (.inl n), some (.inr (some 46)), some (.inr (some 40))], [.inl (nI 0)], M))) ∧ (¬ ((M 40 2) < n) → (((M 40 2) - n) < j → ((nI 0) = 0 ∨ (nI 0) = 1) ∧ (mRun (mSx g) (f_X7_copy g) P (82, [some (.inr (some 0)), some (.inl s), some (.inl i), some (.inl q), some (.inl j), some (.inl n), some (.inr (some 46)), some (.inr (some 40))], [.inl (nI 0)], M))) ∧ (¬ (((M 40 2) - n) < j) → ((nI 1) = 0 ∨ (nI 1) = 1) ∧ (mRun (mSx g) (f_X7_copy g) P (82, [some (.inr (some 0)), some (.inl s), some (.inl i), some (.inl q), some (.inl j), some (.inl n), some (.inr (some 46)), some (.inr (some 40))], [.inl (nI 1)], M)))))))) :
    mRun (mSx g) (f_X7_copy g) P (70, [some (.inr (some 0)), some (.inl s), some (.inl i), some (.inl q), some (.inl j), some (.inl n), some (.inr (some 46)), some (.inr (some 40))], [.inl b], M) := mRun.vc (m_X7_copy g) [82] 6 h

theorem v_copyF_46_40 (g : mG) (M : mM) (P : mP) (s i q j n : Int32) (b : Int32)
    (h : (¬ b = 0 → ∃ n2 n3 : Nat, (∃ ra, (mSx g)[47]? = some (0, n2, ra)) ∧ (∃ rb, (mSx g)[41]? = some (0, n3, rb)) ∧ ¬ i < 0 ∧ ¬ j < 0 ∧ ¬ n < 0 ∧ i.toNatClampNeg + n.toNatClampNeg ≤ n2 ∧ j.toNatClampNeg + n.toNatClampNeg ≤ n3 ∧ (let M6 : mM := mUp M 41 (va_cpy (M 47) (M 41) i.toNatClampNeg j.toNatClampNeg n.toNatClampNeg); P (some (.inl n)) M6)) ∧ (¬ (¬ b = 0) → P (some (.inl (-12))) M)) :
    mRun (mSx g) (f_X7_copy g) P (82, [some (.inr (some 0)), some (.inl s), some (.inl i), some (.inl q), some (.inl j), some (.inl n), some (.inr (some 46)), some (.inr (some 40))], [.inl b], M) := mRun.vc (m_X7_copy g) [] 11 h

theorem copy_run_46_40 (g : mG) (M : mM) (P : mP) (z : aZ) (i j n : Int32) (hR : RpC M z) (hI : zInv z) (hP : pubP M P (F_copy z [nI 3, i, nI 0, j, n])) :
    mRun (mSx g) (f_X7_copy g) P (12, [some (.inr (some 0)), some (.inl (nI 3)), some (.inl i), some (.inl (nI 0)), some (.inl j), some (.inl n), some (.inr (some 46)), none], [.inr (some 40)], M) := by
  have hc : F_copy z [nI 3, i, nI 0, j, n] = if (z.2.2.2 3).1 = -1 ∨ (z.2.2.2 0).1 = -1 then (-11, z) else if ¬ (z.2.2.2 3).1 = (z.2.2.2 0).1 then (-13, z) else if dHld (z.2.2.2 3).2.1 i n = true ∧ dHld (z.2.2.2 0).2.1 j n = true then (n, zS z 0 ((z.2.2.2 0).1, (z.2.2.2 0).2.1, va_cpy (z.2.2.2 3).2.2 (z.2.2.2 0).2.2 (ub i) (ub j) (ub n))) else (-12, z) := rfl
  rw [hc] at hP
  have hz1 := (hI.2.2.2 3 (by decide)).2.1
  have hz2 := (hI.2.2.2 0 (by decide)).2.1
  have hS1 := hR.2.2.2.2.1 3 (by decide)
  have hS2 := hR.2.2.2.2.1 0 (by decide)
  have a1 : M 46 1 = (z.2.2.2 3).1 := hS1.1
  have a2 : M 46 2 = nI (z.2.2.2 3).2.1 := hS1.2.1
  have b1 : M 40 1 = (z.2.2.2 0).1 := hS2.1
  have b2 : M 40 2 = nI (z.2.2.2 0).2.1 := hS2.2.1
  have stay : ∀ v w : Int32, v = w → pubP M P (w, z) → P (some (.inl v)) M := fun v w e h => h v M e hR FrC.refl
  have kF : ¬ ((z.2.2.2 3).1 = -1 ∨ (z.2.2.2 0).1 = -1) → (z.2.2.2 3).1 = (z.2.2.2 0).1 → dHld (z.2.2.2 3).2.1 i n = true → ∀ b, b = mb (dHld (z.2.2.2 0).2.1 j n = true) → mRun (mSx g) (f_X7_copy g) P (82, [some (.inr (some 0)), some (.inl (nI 3)), some (.inl i), some (.inl (nI 0)), some (.inl j), some (.inl n), some (.inr (some 46)), some (.inr (some 40))], [.inl b], M) := fun w1 w2 w3 b hb => by
    rw [if_neg w1, if_neg (fun y => y w2)] at hP
    refine v_copyF_46_40 g M P _ _ _ _ _ _ ?_
    rw [hb]
    by_cases h : dHld (z.2.2.2 0).2.1 j n = true
    · rw [if_pos ⟨w3, h⟩] at hP
      rw [mb_t h]
      refine ⟨fun _ => ?_, fun y => absurd (by decide) y⟩
      obtain ⟨a, m, rfl, rfl, ham⟩ := dHld_t hz1 w3
      obtain ⟨b, m', rfl, hm', hbm⟩ := dHld_t hz2 h
      have hlen : m ≤ 40 ∧ m' ≤ 40 := ⟨by omega, by omega⟩
      obtain rfl : m = m' := by
        have := congrArg Int32.toInt hm'
        rw [nI_toInt (by omega), nI_toInt (by omega)] at this
        omega
      rw [ub_nI (by omega), ub_nI (by omega), ub_nI (by omega)] at hP
      have ca : (nI a).toNatClampNeg = a := nI_clamp (by omega)
      have cb : (nI b).toNatClampNeg = b := nI_clamp (by omega)
      have cm : (nI m).toNatClampNeg = m := nI_clamp (by omega)
      refine ⟨40, 40, ⟨_, mSx_at rfl⟩, ⟨_, mSx_at rfl⟩, nI_pos (by omega), nI_pos (by omega), nI_pos (by omega), by rw [ca, cm]; omega, by rw [cb, cm]; omega, ?_⟩
      rw [ca, cb, cm]
      intro M2
      refine hP _ M2 rfl (RpC_sheet hR (by decide) ⟨?_, ?_, fun y hy => ?_⟩ (fun d h1 h2 => mUp_ne h2)) (fun d h1 => mUp_ne (by omega))
      · show mUp M 41 _ 40 1 = _
        rw [mUp_ne (by decide)]
        exact b1
      · show mUp M 41 _ 40 2 = _
        rw [mUp_ne (by decide)]
        exact b2
      · show mUp M 41 _ 41 y = shC (z.2.2.2 0).1 (va_cpy (z.2.2.2 3).2.2 (z.2.2.2 0).2.2 a b m y)
        rw [mUp_at]
        by_cases hy2 : b ≤ y ∧ y < b + m
        · rw [pk_cpy_in hy2.1 hy2.2, pk_cpy_in hy2.1 hy2.2, ← w2]
          exact hS1.2.2 _ (by omega)
        · rw [pk_cpy_out (by omega), pk_cpy_out (by omega)]
          exact hS2.2.2 y hy
    · rw [if_neg (fun y => h y.2)] at hP
      rw [mb_f h]
      exact ⟨fun y => absurd rfl y, fun _ => stay _ _ rfl hP⟩
  have kE : ¬ ((z.2.2.2 3).1 = -1 ∨ (z.2.2.2 0).1 = -1) → (z.2.2.2 3).1 = (z.2.2.2 0).1 → ∀ b, b = mb (dHld (z.2.2.2 3).2.1 i n = true) → mRun (mSx g) (f_X7_copy g) P (70, [some (.inr (some 0)), some (.inl (nI 3)), some (.inl i), some (.inl (nI 0)), some (.inl j), some (.inl n), some (.inr (some 46)), some (.inr (some 40))], [.inl b], M) := fun w1 w2 b hb => by
    refine v_copyE_46_40 g M P _ _ _ _ _ _ ?_
    rw [hb, b2]
    by_cases h : dHld (z.2.2.2 3).2.1 i n = true
    · rw [mb_t h]
      exact ⟨fun y => absurd y (by decide), fun _ => hold_cs b (A := True) (fun v => mRun (mSx g) (f_X7_copy g) P (82, [some (.inr (some 0)), some (.inl (nI 3)), some (.inl i), some (.inl (nI 0)), some (.inl j), some (.inl n), some (.inr (some 46)), some (.inr (some 40))], [.inl v], M)) (kF w1 w2 h) hz2⟩
    · rw [if_neg w1, if_neg (fun y => y w2), if_neg (fun y => h y.1)] at hP
      rw [mb_f h]
      exact ⟨fun _ => stay _ _ rfl hP, fun y => absurd rfl y⟩
  have kD : ¬ (z.2.2.2 3).1 = -1 → ∀ b, b = mb ((z.2.2.2 0).1 = -1) → mRun (mSx g) (f_X7_copy g) P (40, [some (.inr (some 0)), some (.inl (nI 3)), some (.inl i), some (.inl (nI 0)), some (.inl j), some (.inl n), some (.inr (some 46)), some (.inr (some 40))], [.inl b], M) := fun w1 b hb => by
    refine v_copyD_46_40 g M P _ _ _ _ _ _ ?_
    rw [hb, a1]
    try rw [b1]
    rw [a2]
    by_cases h : (z.2.2.2 0).1 = -1
    · rw [if_pos (Or.inr h)] at hP
      rw [mb_t h]
      exact ⟨fun y => absurd y (by decide), fun _ => stay _ _ rfl hP⟩
    · have w : ¬ ((z.2.2.2 3).1 = -1 ∨ (z.2.2.2 0).1 = -1) := fun y => y.elim w1 h
      rw [mb_f h]
      refine ⟨fun _ => ⟨fun w2 => hold_cs b (A := True) (fun v => mRun (mSx g) (f_X7_copy g) P (70, [some (.inr (some 0)), some (.inl (nI 3)), some (.inl i), some (.inl (nI 0)), some (.inl j), some (.inl n), some (.inr (some 46)), some (.inr (some 40))], [.inl v], M)) (kE w w2) hz1, fun w2 => ?_⟩, fun y => absurd rfl y⟩
      rw [if_neg w, if_pos w2] at hP
      exact stay _ _ rfl hP
  have kC : ∀ b, b = mb ((z.2.2.2 3).1 = -1) → mRun (mSx g) (f_X7_copy g) P (32, [some (.inr (some 0)), some (.inl (nI 3)), some (.inl i), some (.inl (nI 0)), some (.inl j), some (.inl n), some (.inr (some 46)), some (.inr (some 40))], [.inl b], M) := fun b hb => by
    refine v_copyC_46_40 g M P _ _ _ _ _ _ ?_
    rw [hb, b1]
    by_cases h : (z.2.2.2 3).1 = -1
    · rw [if_pos (Or.inl h)] at hP
      rw [mb_t h]
      exact ⟨fun _ => stay _ _ rfl hP, fun y => absurd (by decide) y⟩
    · rw [mb_f h]
      exact ⟨fun y => absurd rfl y, fun _ => ⟨fun w => ⟨Or.inl rfl, kD h _ (mb_f w).symm⟩, fun w => ⟨Or.inr rfl, kD h _ (mb_t (Classical.not_not.mp w)).symm⟩⟩⟩
  refine v_copyB_46_40 g M P _ _ _ _ _ ?_
  rw [a1]
  exact ⟨fun w => ⟨Or.inl rfl, kC _ (mb_f w).symm⟩, fun w => ⟨Or.inr rfl, kC _ (mb_t (Classical.not_not.mp w)).symm⟩⟩
theorem v_copyB_46_42 (g : mG) (M : mM) (P : mP) (s i q j n : Int32)
    (h : (¬ (M 46 1) = (-1) → ((nI 0) = 0 ∨ (nI 0) = 1) ∧ (mRun (mSx g) (f_X7_copy g) P (32, [some (.inr (some 0)), some (.inl s), some (.inl i), some (.inl q), some (.inl j), some (.inl n), some (.inr (some 46)), some (.inr (some 42))], [.inl (nI 0)], M))) ∧ (¬ (¬ (M 46 1) = (-1)) → ((nI 1) = 0 ∨ (nI 1) = 1) ∧ (mRun (mSx g) (f_X7_copy g) P (32, [some (.inr (some 0)), some (.inl s), some (.inl i), some (.inl q), some (.inl j), some (.inl n), some (.inr (some 46)), some (.inr (some 42))], [.inl (nI 1)], M)))) :
    mRun (mSx g) (f_X7_copy g) P (12, [some (.inr (some 0)), some (.inl s), some (.inl i), some (.inl q), some (.inl j), some (.inl n), some (.inr (some 46)), none], [.inr (some 42)], M) := mRun.vc (m_X7_copy g) [32] 8 h

theorem v_copyC_46_42 (g : mG) (M : mM) (P : mP) (s i q j n : Int32) (b : Int32)
    (h : (¬ b = 0 → P (some (.inl (-11))) M) ∧ (¬ (¬ b = 0) → (¬ (M 42 1) = (-1) → ((nI 0) = 0 ∨ (nI 0) = 1) ∧ (mRun (mSx g) (f_X7_copy g) P (40, [some (.inr (some 0)), some (.inl s), some (.inl i), some (.inl q), some (.inl j), some (.inl n), some (.inr (some 46)), some (.inr (some 42))], [.inl (nI 0)], M))) ∧ (¬ (¬ (M 42 1) = (-1)) → ((nI 1) = 0 ∨ (nI 1) = 1) ∧ (mRun (mSx g) (f_X7_copy g) P (40, [some (.inr (some 0)), some (.inl s), some (.inl i), some (.inl q), some (.inl j), some (.inl n), some (.inr (some 46)), some (.inr (some 42))], [.inl (nI 1)], M))))) :
    mRun (mSx g) (f_X7_copy g) P (32, [some (.inr (some 0)), some (.inl s), some (.inl i), some (.inl q), some (.inl j), some (.inl n), some (.inr (some 46)), some (.inr (some 42))], [.inl b], M) := mRun.vc (m_X7_copy g) [40] 4 h

theorem v_copyD_46_42 (g : mG) (M : mM) (P : mP) (s i q j n : Int32) (b : Int32)
    (h : (b = 0 → ((M 46 1) = (M 42 1) → (i < 0 → ((nI 0) = 0 ∨ (nI 0) = 1) ∧ (mRun (mSx g) (f_X7_copy g) P (70, [some (.inr (some 0)), some (.inl s), some (.inl i), some (.inl q), some (.inl j), some (.inl n), some (.inr (some 46)), some (.inr (some 42))], [.inl (nI 0)], M))) ∧ (¬ (i < 0) → (n < 0 → ((nI 0) = 0 ∨ (nI 0) = 1) ∧ (mRun (mSx g) (f_X7_copy g) P (70, [some (.inr (some 0)), some (.inl s), some (.inl i), some (.inl q), some (.inl j), some (.inl n), some (.inr (some 46)), some (.inr (some 42))], [.inl (nI 0)], M))) ∧ (¬ (n < 0) → ((M 46 2) < n → ((nI 0) = 0 ∨ (nI 0) = 1) ∧ (mRun (mSx g) (f_X7_copy g) P (70, [some (.inr (some 0)), some (.inl s), some (.inl i), some (.inl q), some (.inl j), some (.inl n), some (.inr (some 46)), some (.inr (some 42))], [.inl (nI 0)], M))) ∧ (¬ ((M 46 2) < n) → (((M 46 2) - n) < i → ((nI 0) = 0 ∨ (nI 0) = 1) ∧ (mRun (mSx g) (f_X7_copy g) P (70, [some (.inr (some 0)), some (.inl s), some (.inl i), some (.inl q), some (.inl j), some (.inl n), some (.inr (some 46)), some (.inr (some 42))], [.inl (nI 0)], M))) ∧ (¬ (((M 46 2) - n) < i) → ((nI 1) = 0 ∨ (nI 1) = 1) ∧ (mRun (mSx g) (f_X7_copy g) P (70, [some (.inr (some 0)), some (.inl s), some (.inl i), some (.inl q), some (.inl j), some (.inl n), some (.inr (some 46)), some (.inr (some 42))], [.inl (nI 1)], M))))))) ∧ (¬ ((M 46 1) = (M 42 1)) → P (some (.inl (-13))) M)) ∧ (¬ (b = 0) → P (some (.inl (-11))) M)) :
    mRun (mSx g) (f_X7_copy g) P (40, [some (.inr (some 0)), some (.inl s), some (.inl i), some (.inl q), some (.inl j), some (.inl n), some (.inr (some 46)), some (.inr (some 42))], [.inl b], M) := mRun.vc (m_X7_copy g) [70] 11 h

theorem v_copyE_46_42 (g : mG) (M : mM) (P : mP) (s i q j n : Int32) (b : Int32)
    (h : (b = 0 → P (some (.inl (-12))) M) ∧ (¬ (b = 0) → (j < 0 → ((nI 0) = 0 ∨ (nI 0) = 1) ∧ (mRun (mSx g) (f_X7_copy g) P (82, [some (.inr (some 0)), some (.inl s), some (.inl i), some (.inl q), some (.inl j), some (.inl n), some (.inr (some 46)), some (.inr (some 42))], [.inl (nI 0)], M))) ∧ (¬ (j < 0) → (n < 0 → ((nI 0) = 0 ∨ (nI 0) = 1) ∧ (mRun (mSx g) (f_X7_copy g) P (82, [some (.inr (some 0)), some (.inl s), some (.inl i), some (.inl q), some (.inl j), some (.inl n), some (.inr (some 46)), some (.inr (some 42))], [.inl (nI 0)], M))) ∧ (¬ (n < 0) → ((M 42 2) < n → ((nI 0) = 0 ∨ (nI 0) = 1) ∧ (mRun (mSx g) (f_X7_copy g) P (82, [some (.inr (some 0)), some (.inl s), some (.inl i), some (.inl q), some (.inl j), some (.inl n), some (.inr (some 46)), some (.inr (some 42))], [.inl (nI 0)], M))) ∧ (¬ ((M 42 2) < n) → (((M 42 2) - n) < j → ((nI 0) = 0 ∨ (nI 0) = 1) ∧ (mRun (mSx g) (f_X7_copy g) P (82, [some (.inr (some 0)), some (.inl s), some (.inl i), some (.inl q), some (.inl j), some (.inl n), some (.inr (some 46)), some (.inr (some 42))], [.inl (nI 0)], M))) ∧ (¬ (((M 42 2) - n) < j) → ((nI 1) = 0 ∨ (nI 1) = 1) ∧ (mRun (mSx g) (f_X7_copy g) P (82, [some (.inr (some 0)), some (.inl s), some (.inl i), some (.inl q), some (.inl j), some (.inl n), some (.inr (some 46)), some (.inr (some 42))], [.inl (nI 1)], M)))))))) :
    mRun (mSx g) (f_X7_copy g) P (70, [some (.inr (some 0)), some (.inl s), some (.inl i), some (.inl q), some (.inl j), some (.inl n), some (.inr (some 46)), some (.inr (some 42))], [.inl b], M) := mRun.vc (m_X7_copy g) [82] 6 h

theorem v_copyF_46_42 (g : mG) (M : mM) (P : mP) (s i q j n : Int32) (b : Int32)
    (h : (¬ b = 0 → ∃ n2 n3 : Nat, (∃ ra, (mSx g)[47]? = some (0, n2, ra)) ∧ (∃ rb, (mSx g)[43]? = some (0, n3, rb)) ∧ ¬ i < 0 ∧ ¬ j < 0 ∧ ¬ n < 0 ∧ i.toNatClampNeg + n.toNatClampNeg ≤ n2 ∧ j.toNatClampNeg + n.toNatClampNeg ≤ n3 ∧ (let M6 : mM := mUp M 43 (va_cpy (M 47) (M 43) i.toNatClampNeg j.toNatClampNeg n.toNatClampNeg); P (some (.inl n)) M6)) ∧ (¬ (¬ b = 0) → P (some (.inl (-12))) M)) :
    mRun (mSx g) (f_X7_copy g) P (82, [some (.inr (some 0)), some (.inl s), some (.inl i), some (.inl q), some (.inl j), some (.inl n), some (.inr (some 46)), some (.inr (some 42))], [.inl b], M) := mRun.vc (m_X7_copy g) [] 11 h

theorem copy_run_46_42 (g : mG) (M : mM) (P : mP) (z : aZ) (i j n : Int32) (hR : RpC M z) (hI : zInv z) (hP : pubP M P (F_copy z [nI 3, i, nI 1, j, n])) :
    mRun (mSx g) (f_X7_copy g) P (12, [some (.inr (some 0)), some (.inl (nI 3)), some (.inl i), some (.inl (nI 1)), some (.inl j), some (.inl n), some (.inr (some 46)), none], [.inr (some 42)], M) := by
  have hc : F_copy z [nI 3, i, nI 1, j, n] = if (z.2.2.2 3).1 = -1 ∨ (z.2.2.2 1).1 = -1 then (-11, z) else if ¬ (z.2.2.2 3).1 = (z.2.2.2 1).1 then (-13, z) else if dHld (z.2.2.2 3).2.1 i n = true ∧ dHld (z.2.2.2 1).2.1 j n = true then (n, zS z 1 ((z.2.2.2 1).1, (z.2.2.2 1).2.1, va_cpy (z.2.2.2 3).2.2 (z.2.2.2 1).2.2 (ub i) (ub j) (ub n))) else (-12, z) := rfl
  rw [hc] at hP
  have hz1 := (hI.2.2.2 3 (by decide)).2.1
  have hz2 := (hI.2.2.2 1 (by decide)).2.1
  have hS1 := hR.2.2.2.2.1 3 (by decide)
  have hS2 := hR.2.2.2.2.1 1 (by decide)
  have a1 : M 46 1 = (z.2.2.2 3).1 := hS1.1
  have a2 : M 46 2 = nI (z.2.2.2 3).2.1 := hS1.2.1
  have b1 : M 42 1 = (z.2.2.2 1).1 := hS2.1
  have b2 : M 42 2 = nI (z.2.2.2 1).2.1 := hS2.2.1
  have stay : ∀ v w : Int32, v = w → pubP M P (w, z) → P (some (.inl v)) M := fun v w e h => h v M e hR FrC.refl
  have kF : ¬ ((z.2.2.2 3).1 = -1 ∨ (z.2.2.2 1).1 = -1) → (z.2.2.2 3).1 = (z.2.2.2 1).1 → dHld (z.2.2.2 3).2.1 i n = true → ∀ b, b = mb (dHld (z.2.2.2 1).2.1 j n = true) → mRun (mSx g) (f_X7_copy g) P (82, [some (.inr (some 0)), some (.inl (nI 3)), some (.inl i), some (.inl (nI 1)), some (.inl j), some (.inl n), some (.inr (some 46)), some (.inr (some 42))], [.inl b], M) := fun w1 w2 w3 b hb => by
    rw [if_neg w1, if_neg (fun y => y w2)] at hP
    refine v_copyF_46_42 g M P _ _ _ _ _ _ ?_
    rw [hb]
    by_cases h : dHld (z.2.2.2 1).2.1 j n = true
    · rw [if_pos ⟨w3, h⟩] at hP
      rw [mb_t h]
      refine ⟨fun _ => ?_, fun y => absurd (by decide) y⟩
      obtain ⟨a, m, rfl, rfl, ham⟩ := dHld_t hz1 w3
      obtain ⟨b, m', rfl, hm', hbm⟩ := dHld_t hz2 h
      have hlen : m ≤ 40 ∧ m' ≤ 40 := ⟨by omega, by omega⟩
      obtain rfl : m = m' := by
        have := congrArg Int32.toInt hm'
        rw [nI_toInt (by omega), nI_toInt (by omega)] at this
        omega
      rw [ub_nI (by omega), ub_nI (by omega), ub_nI (by omega)] at hP
      have ca : (nI a).toNatClampNeg = a := nI_clamp (by omega)
      have cb : (nI b).toNatClampNeg = b := nI_clamp (by omega)
      have cm : (nI m).toNatClampNeg = m := nI_clamp (by omega)
      refine ⟨40, 40, ⟨_, mSx_at rfl⟩, ⟨_, mSx_at rfl⟩, nI_pos (by omega), nI_pos (by omega), nI_pos (by omega), by rw [ca, cm]; omega, by rw [cb, cm]; omega, ?_⟩
      rw [ca, cb, cm]
      intro M2
      refine hP _ M2 rfl (RpC_sheet hR (by decide) ⟨?_, ?_, fun y hy => ?_⟩ (fun d h1 h2 => mUp_ne h2)) (fun d h1 => mUp_ne (by omega))
      · show mUp M 43 _ 42 1 = _
        rw [mUp_ne (by decide)]
        exact b1
      · show mUp M 43 _ 42 2 = _
        rw [mUp_ne (by decide)]
        exact b2
      · show mUp M 43 _ 43 y = shC (z.2.2.2 1).1 (va_cpy (z.2.2.2 3).2.2 (z.2.2.2 1).2.2 a b m y)
        rw [mUp_at]
        by_cases hy2 : b ≤ y ∧ y < b + m
        · rw [pk_cpy_in hy2.1 hy2.2, pk_cpy_in hy2.1 hy2.2, ← w2]
          exact hS1.2.2 _ (by omega)
        · rw [pk_cpy_out (by omega), pk_cpy_out (by omega)]
          exact hS2.2.2 y hy
    · rw [if_neg (fun y => h y.2)] at hP
      rw [mb_f h]
      exact ⟨fun y => absurd rfl y, fun _ => stay _ _ rfl hP⟩
  have kE : ¬ ((z.2.2.2 3).1 = -1 ∨ (z.2.2.2 1).1 = -1) → (z.2.2.2 3).1 = (z.2.2.2 1).1 → ∀ b, b = mb (dHld (z.2.2.2 3).2.1 i n = true) → mRun (mSx g) (f_X7_copy g) P (70, [some (.inr (some 0)), some (.inl (nI 3)), some (.inl i), some (.inl (nI 1)), some (.inl j), some (.inl n), some (.inr (some 46)), some (.inr (some 42))], [.inl b], M) := fun w1 w2 b hb => by
    refine v_copyE_46_42 g M P _ _ _ _ _ _ ?_
    rw [hb, b2]
    by_cases h : dHld (z.2.2.2 3).2.1 i n = true
    · rw [mb_t h]
      exact ⟨fun y => absurd y (by decide), fun _ => hold_cs b (A := True) (fun v => mRun (mSx g) (f_X7_copy g) P (82, [some (.inr (some 0)), some (.inl (nI 3)), some (.inl i), some (.inl (nI 1)), some (.inl j), some (.inl n), some (.inr (some 46)), some (.inr (some 42))], [.inl v], M)) (kF w1 w2 h) hz2⟩
    · rw [if_neg w1, if_neg (fun y => y w2), if_neg (fun y => h y.1)] at hP
      rw [mb_f h]
      exact ⟨fun _ => stay _ _ rfl hP, fun y => absurd rfl y⟩
  have kD : ¬ (z.2.2.2 3).1 = -1 → ∀ b, b = mb ((z.2.2.2 1).1 = -1) → mRun (mSx g) (f_X7_copy g) P (40, [some (.inr (some 0)), some (.inl (nI 3)), some (.inl i), some (.inl (nI 1)), some (.inl j), some (.inl n), some (.inr (some 46)), some (.inr (some 42))], [.inl b], M) := fun w1 b hb => by
    refine v_copyD_46_42 g M P _ _ _ _ _ _ ?_
    rw [hb, a1]
    try rw [b1]
    rw [a2]
    by_cases h : (z.2.2.2 1).1 = -1
    · rw [if_pos (Or.inr h)] at hP
      rw [mb_t h]
      exact ⟨fun y => absurd y (by decide), fun _ => stay _ _ rfl hP⟩
    · have w : ¬ ((z.2.2.2 3).1 = -1 ∨ (z.2.2.2 1).1 = -1) := fun y => y.elim w1 h
      rw [mb_f h]
      refine ⟨fun _ => ⟨fun w2 => hold_cs b (A := True) (fun v => mRun (mSx g) (f_X7_copy g) P (70, [some (.inr (some 0)), some (.inl (nI 3)), some (.inl i), some (.inl (nI 1)), some (.inl j), some (.inl n), some (.inr (some 46)), some (.inr (some 42))], [.inl v], M)) (kE w w2) hz1, fun w2 => ?_⟩, fun y => absurd rfl y⟩
      rw [if_neg w, if_pos w2] at hP
      exact stay _ _ rfl hP
  have kC : ∀ b, b = mb ((z.2.2.2 3).1 = -1) → mRun (mSx g) (f_X7_copy g) P (32, [some (.inr (some 0)), some (.inl (nI 3)), some (.inl i), some (.inl (nI 1)), some (.inl j), some (.inl n), some (.inr (some 46)), some (.inr (some 42))], [.inl b], M) := fun b hb => by
    refine v_copyC_46_42 g M P _ _ _ _ _ _ ?_
    rw [hb, b1]
    by_cases h : (z.2.2.2 3).1 = -1
    · rw [if_pos (Or.inl h)] at hP
      rw [mb_t h]
      exact ⟨fun _ => stay _ _ rfl hP, fun y => absurd (by decide) y⟩
    · rw [mb_f h]
      exact ⟨fun y => absurd rfl y, fun _ => ⟨fun w => ⟨Or.inl rfl, kD h _ (mb_f w).symm⟩, fun w => ⟨Or.inr rfl, kD h _ (mb_t (Classical.not_not.mp w)).symm⟩⟩⟩
  refine v_copyB_46_42 g M P _ _ _ _ _ ?_
  rw [a1]
  exact ⟨fun w => ⟨Or.inl rfl, kC _ (mb_f w).symm⟩, fun w => ⟨Or.inr rfl, kC _ (mb_t (Classical.not_not.mp w)).symm⟩⟩
theorem v_copyB_46_44 (g : mG) (M : mM) (P : mP) (s i q j n : Int32)
    (h : (¬ (M 46 1) = (-1) → ((nI 0) = 0 ∨ (nI 0) = 1) ∧ (mRun (mSx g) (f_X7_copy g) P (32, [some (.inr (some 0)), some (.inl s), some (.inl i), some (.inl q), some (.inl j), some (.inl n), some (.inr (some 46)), some (.inr (some 44))], [.inl (nI 0)], M))) ∧ (¬ (¬ (M 46 1) = (-1)) → ((nI 1) = 0 ∨ (nI 1) = 1) ∧ (mRun (mSx g) (f_X7_copy g) P (32, [some (.inr (some 0)), some (.inl s), some (.inl i), some (.inl q), some (.inl j), some (.inl n), some (.inr (some 46)), some (.inr (some 44))], [.inl (nI 1)], M)))) :
    mRun (mSx g) (f_X7_copy g) P (12, [some (.inr (some 0)), some (.inl s), some (.inl i), some (.inl q), some (.inl j), some (.inl n), some (.inr (some 46)), none], [.inr (some 44)], M) := mRun.vc (m_X7_copy g) [32] 8 h

theorem v_copyC_46_44 (g : mG) (M : mM) (P : mP) (s i q j n : Int32) (b : Int32)
    (h : (¬ b = 0 → P (some (.inl (-11))) M) ∧ (¬ (¬ b = 0) → (¬ (M 44 1) = (-1) → ((nI 0) = 0 ∨ (nI 0) = 1) ∧ (mRun (mSx g) (f_X7_copy g) P (40, [some (.inr (some 0)), some (.inl s), some (.inl i), some (.inl q), some (.inl j), some (.inl n), some (.inr (some 46)), some (.inr (some 44))], [.inl (nI 0)], M))) ∧ (¬ (¬ (M 44 1) = (-1)) → ((nI 1) = 0 ∨ (nI 1) = 1) ∧ (mRun (mSx g) (f_X7_copy g) P (40, [some (.inr (some 0)), some (.inl s), some (.inl i), some (.inl q), some (.inl j), some (.inl n), some (.inr (some 46)), some (.inr (some 44))], [.inl (nI 1)], M))))) :
    mRun (mSx g) (f_X7_copy g) P (32, [some (.inr (some 0)), some (.inl s), some (.inl i), some (.inl q), some (.inl j), some (.inl n), some (.inr (some 46)), some (.inr (some 44))], [.inl b], M) := mRun.vc (m_X7_copy g) [40] 4 h

theorem v_copyD_46_44 (g : mG) (M : mM) (P : mP) (s i q j n : Int32) (b : Int32)
    (h : (b = 0 → ((M 46 1) = (M 44 1) → (i < 0 → ((nI 0) = 0 ∨ (nI 0) = 1) ∧ (mRun (mSx g) (f_X7_copy g) P (70, [some (.inr (some 0)), some (.inl s), some (.inl i), some (.inl q), some (.inl j), some (.inl n), some (.inr (some 46)), some (.inr (some 44))], [.inl (nI 0)], M))) ∧ (¬ (i < 0) → (n < 0 → ((nI 0) = 0 ∨ (nI 0) = 1) ∧ (mRun (mSx g) (f_X7_copy g) P (70, [some (.inr (some 0)), some (.inl s), some (.inl i), some (.inl q), some (.inl j), some (.inl n), some (.inr (some 46)), some (.inr (some 44))], [.inl (nI 0)], M))) ∧ (¬ (n < 0) → ((M 46 2) < n → ((nI 0) = 0 ∨ (nI 0) = 1) ∧ (mRun (mSx g) (f_X7_copy g) P (70, [some (.inr (some 0)), some (.inl s), some (.inl i), some (.inl q), some (.inl j), some (.inl n), some (.inr (some 46)), some (.inr (some 44))], [.inl (nI 0)], M))) ∧ (¬ ((M 46 2) < n) → (((M 46 2) - n) < i → ((nI 0) = 0 ∨ (nI 0) = 1) ∧ (mRun (mSx g) (f_X7_copy g) P (70, [some (.inr (some 0)), some (.inl s), some (.inl i), some (.inl q), some (.inl j), some (.inl n), some (.inr (some 46)), some (.inr (some 44))], [.inl (nI 0)], M))) ∧ (¬ (((M 46 2) - n) < i) → ((nI 1) = 0 ∨ (nI 1) = 1) ∧ (mRun (mSx g) (f_X7_copy g) P (70, [some (.inr (some 0)), some (.inl s), some (.inl i), some (.inl q), some (.inl j), some (.inl n), some (.inr (some 46)), some (.inr (some 44))], [.inl (nI 1)], M))))))) ∧ (¬ ((M 46 1) = (M 44 1)) → P (some (.inl (-13))) M)) ∧ (¬ (b = 0) → P (some (.inl (-11))) M)) :
    mRun (mSx g) (f_X7_copy g) P (40, [some (.inr (some 0)), some (.inl s), some (.inl i), some (.inl q), some (.inl j), some (.inl n), some (.inr (some 46)), some (.inr (some 44))], [.inl b], M) := mRun.vc (m_X7_copy g) [70] 11 h

theorem v_copyE_46_44 (g : mG) (M : mM) (P : mP) (s i q j n : Int32) (b : Int32)
    (h : (b = 0 → P (some (.inl (-12))) M) ∧ (¬ (b = 0) → (j < 0 → ((nI 0) = 0 ∨ (nI 0) = 1) ∧ (mRun (mSx g) (f_X7_copy g) P (82, [some (.inr (some 0)), some (.inl s), some (.inl i), some (.inl q), some (.inl j), some (.inl n), some (.inr (some 46)), some (.inr (some 44))], [.inl (nI 0)], M))) ∧ (¬ (j < 0) → (n < 0 → ((nI 0) = 0 ∨ (nI 0) = 1) ∧ (mRun (mSx g) (f_X7_copy g) P (82, [some (.inr (some 0)), some (.inl s), some (.inl i), some (.inl q), some (.inl j), some (.inl n), some (.inr (some 46)), some (.inr (some 44))], [.inl (nI 0)], M))) ∧ (¬ (n < 0) → ((M 44 2) < n → ((nI 0) = 0 ∨ (nI 0) = 1) ∧ (mRun (mSx g) (f_X7_copy g) P (82, [some (.inr (some 0)), some (.inl s), some (.inl i), some (.inl q), some (.inl j), some (.inl n), some (.inr (some 46)), some (.inr (some 44))], [.inl (nI 0)], M))) ∧ (¬ ((M 44 2) < n) → (((M 44 2) - n) < j → ((nI 0) = 0 ∨ (nI 0) = 1) ∧ (mRun (mSx g) (f_X7_copy g) P (82, [some (.inr (some 0)), some (.inl s), some (.inl i), some (.inl q), some (.inl j), some (.inl n), some (.inr (some 46)), some (.inr (some 44))], [.inl (nI 0)], M))) ∧ (¬ (((M 44 2) - n) < j) → ((nI 1) = 0 ∨ (nI 1) = 1) ∧ (mRun (mSx g) (f_X7_copy g) P (82, [some (.inr (some 0)), some (.inl s), some (.inl i), some (.inl q), some (.inl j), some (.inl n), some (.inr (some 46)), some (.inr (some 44))], [.inl (nI 1)], M)))))))) :
    mRun (mSx g) (f_X7_copy g) P (70, [some (.inr (some 0)), some (.inl s), some (.inl i), some (.inl q), some (.inl j), some (.inl n), some (.inr (some 46)), some (.inr (some 44))], [.inl b], M) := mRun.vc (m_X7_copy g) [82] 6 h

theorem v_copyF_46_44 (g : mG) (M : mM) (P : mP) (s i q j n : Int32) (b : Int32)
    (h : (¬ b = 0 → ∃ n2 n3 : Nat, (∃ ra, (mSx g)[47]? = some (0, n2, ra)) ∧ (∃ rb, (mSx g)[45]? = some (0, n3, rb)) ∧ ¬ i < 0 ∧ ¬ j < 0 ∧ ¬ n < 0 ∧ i.toNatClampNeg + n.toNatClampNeg ≤ n2 ∧ j.toNatClampNeg + n.toNatClampNeg ≤ n3 ∧ (let M6 : mM := mUp M 45 (va_cpy (M 47) (M 45) i.toNatClampNeg j.toNatClampNeg n.toNatClampNeg); P (some (.inl n)) M6)) ∧ (¬ (¬ b = 0) → P (some (.inl (-12))) M)) :
    mRun (mSx g) (f_X7_copy g) P (82, [some (.inr (some 0)), some (.inl s), some (.inl i), some (.inl q), some (.inl j), some (.inl n), some (.inr (some 46)), some (.inr (some 44))], [.inl b], M) := mRun.vc (m_X7_copy g) [] 11 h

theorem copy_run_46_44 (g : mG) (M : mM) (P : mP) (z : aZ) (i j n : Int32) (hR : RpC M z) (hI : zInv z) (hP : pubP M P (F_copy z [nI 3, i, nI 2, j, n])) :
    mRun (mSx g) (f_X7_copy g) P (12, [some (.inr (some 0)), some (.inl (nI 3)), some (.inl i), some (.inl (nI 2)), some (.inl j), some (.inl n), some (.inr (some 46)), none], [.inr (some 44)], M) := by
  have hc : F_copy z [nI 3, i, nI 2, j, n] = if (z.2.2.2 3).1 = -1 ∨ (z.2.2.2 2).1 = -1 then (-11, z) else if ¬ (z.2.2.2 3).1 = (z.2.2.2 2).1 then (-13, z) else if dHld (z.2.2.2 3).2.1 i n = true ∧ dHld (z.2.2.2 2).2.1 j n = true then (n, zS z 2 ((z.2.2.2 2).1, (z.2.2.2 2).2.1, va_cpy (z.2.2.2 3).2.2 (z.2.2.2 2).2.2 (ub i) (ub j) (ub n))) else (-12, z) := rfl
  rw [hc] at hP
  have hz1 := (hI.2.2.2 3 (by decide)).2.1
  have hz2 := (hI.2.2.2 2 (by decide)).2.1
  have hS1 := hR.2.2.2.2.1 3 (by decide)
  have hS2 := hR.2.2.2.2.1 2 (by decide)
  have a1 : M 46 1 = (z.2.2.2 3).1 := hS1.1
  have a2 : M 46 2 = nI (z.2.2.2 3).2.1 := hS1.2.1
  have b1 : M 44 1 = (z.2.2.2 2).1 := hS2.1
  have b2 : M 44 2 = nI (z.2.2.2 2).2.1 := hS2.2.1
  have stay : ∀ v w : Int32, v = w → pubP M P (w, z) → P (some (.inl v)) M := fun v w e h => h v M e hR FrC.refl
  have kF : ¬ ((z.2.2.2 3).1 = -1 ∨ (z.2.2.2 2).1 = -1) → (z.2.2.2 3).1 = (z.2.2.2 2).1 → dHld (z.2.2.2 3).2.1 i n = true → ∀ b, b = mb (dHld (z.2.2.2 2).2.1 j n = true) → mRun (mSx g) (f_X7_copy g) P (82, [some (.inr (some 0)), some (.inl (nI 3)), some (.inl i), some (.inl (nI 2)), some (.inl j), some (.inl n), some (.inr (some 46)), some (.inr (some 44))], [.inl b], M) := fun w1 w2 w3 b hb => by
    rw [if_neg w1, if_neg (fun y => y w2)] at hP
    refine v_copyF_46_44 g M P _ _ _ _ _ _ ?_
    rw [hb]
    by_cases h : dHld (z.2.2.2 2).2.1 j n = true
    · rw [if_pos ⟨w3, h⟩] at hP
      rw [mb_t h]
      refine ⟨fun _ => ?_, fun y => absurd (by decide) y⟩
      obtain ⟨a, m, rfl, rfl, ham⟩ := dHld_t hz1 w3
      obtain ⟨b, m', rfl, hm', hbm⟩ := dHld_t hz2 h
      have hlen : m ≤ 40 ∧ m' ≤ 40 := ⟨by omega, by omega⟩
      obtain rfl : m = m' := by
        have := congrArg Int32.toInt hm'
        rw [nI_toInt (by omega), nI_toInt (by omega)] at this
        omega
      rw [ub_nI (by omega), ub_nI (by omega), ub_nI (by omega)] at hP
      have ca : (nI a).toNatClampNeg = a := nI_clamp (by omega)
      have cb : (nI b).toNatClampNeg = b := nI_clamp (by omega)
      have cm : (nI m).toNatClampNeg = m := nI_clamp (by omega)
      refine ⟨40, 40, ⟨_, mSx_at rfl⟩, ⟨_, mSx_at rfl⟩, nI_pos (by omega), nI_pos (by omega), nI_pos (by omega), by rw [ca, cm]; omega, by rw [cb, cm]; omega, ?_⟩
      rw [ca, cb, cm]
      intro M2
      refine hP _ M2 rfl (RpC_sheet hR (by decide) ⟨?_, ?_, fun y hy => ?_⟩ (fun d h1 h2 => mUp_ne h2)) (fun d h1 => mUp_ne (by omega))
      · show mUp M 45 _ 44 1 = _
        rw [mUp_ne (by decide)]
        exact b1
      · show mUp M 45 _ 44 2 = _
        rw [mUp_ne (by decide)]
        exact b2
      · show mUp M 45 _ 45 y = shC (z.2.2.2 2).1 (va_cpy (z.2.2.2 3).2.2 (z.2.2.2 2).2.2 a b m y)
        rw [mUp_at]
        by_cases hy2 : b ≤ y ∧ y < b + m
        · rw [pk_cpy_in hy2.1 hy2.2, pk_cpy_in hy2.1 hy2.2, ← w2]
          exact hS1.2.2 _ (by omega)
        · rw [pk_cpy_out (by omega), pk_cpy_out (by omega)]
          exact hS2.2.2 y hy
    · rw [if_neg (fun y => h y.2)] at hP
      rw [mb_f h]
      exact ⟨fun y => absurd rfl y, fun _ => stay _ _ rfl hP⟩
  have kE : ¬ ((z.2.2.2 3).1 = -1 ∨ (z.2.2.2 2).1 = -1) → (z.2.2.2 3).1 = (z.2.2.2 2).1 → ∀ b, b = mb (dHld (z.2.2.2 3).2.1 i n = true) → mRun (mSx g) (f_X7_copy g) P (70, [some (.inr (some 0)), some (.inl (nI 3)), some (.inl i), some (.inl (nI 2)), some (.inl j), some (.inl n), some (.inr (some 46)), some (.inr (some 44))], [.inl b], M) := fun w1 w2 b hb => by
    refine v_copyE_46_44 g M P _ _ _ _ _ _ ?_
    rw [hb, b2]
    by_cases h : dHld (z.2.2.2 3).2.1 i n = true
    · rw [mb_t h]
      exact ⟨fun y => absurd y (by decide), fun _ => hold_cs b (A := True) (fun v => mRun (mSx g) (f_X7_copy g) P (82, [some (.inr (some 0)), some (.inl (nI 3)), some (.inl i), some (.inl (nI 2)), some (.inl j), some (.inl n), some (.inr (some 46)), some (.inr (some 44))], [.inl v], M)) (kF w1 w2 h) hz2⟩
    · rw [if_neg w1, if_neg (fun y => y w2), if_neg (fun y => h y.1)] at hP
      rw [mb_f h]
      exact ⟨fun _ => stay _ _ rfl hP, fun y => absurd rfl y⟩
  have kD : ¬ (z.2.2.2 3).1 = -1 → ∀ b, b = mb ((z.2.2.2 2).1 = -1) → mRun (mSx g) (f_X7_copy g) P (40, [some (.inr (some 0)), some (.inl (nI 3)), some (.inl i), some (.inl (nI 2)), some (.inl j), some (.inl n), some (.inr (some 46)), some (.inr (some 44))], [.inl b], M) := fun w1 b hb => by
    refine v_copyD_46_44 g M P _ _ _ _ _ _ ?_
    rw [hb, a1]
    try rw [b1]
    rw [a2]
    by_cases h : (z.2.2.2 2).1 = -1
    · rw [if_pos (Or.inr h)] at hP
      rw [mb_t h]
      exact ⟨fun y => absurd y (by decide), fun _ => stay _ _ rfl hP⟩
    · have w : ¬ ((z.2.2.2 3).1 = -1 ∨ (z.2.2.2 2).1 = -1) := fun y => y.elim w1 h
      rw [mb_f h]
      refine ⟨fun _ => ⟨fun w2 => hold_cs b (A := True) (fun v => mRun (mSx g) (f_X7_copy g) P (70, [some (.inr (some 0)), some (.inl (nI 3)), some (.inl i), some (.inl (nI 2)), some (.inl j), some (.inl n), some (.inr (some 46)), some (.inr (some 44))], [.inl v], M)) (kE w w2) hz1, fun w2 => ?_⟩, fun y => absurd rfl y⟩
      rw [if_neg w, if_pos w2] at hP
      exact stay _ _ rfl hP
  have kC : ∀ b, b = mb ((z.2.2.2 3).1 = -1) → mRun (mSx g) (f_X7_copy g) P (32, [some (.inr (some 0)), some (.inl (nI 3)), some (.inl i), some (.inl (nI 2)), some (.inl j), some (.inl n), some (.inr (some 46)), some (.inr (some 44))], [.inl b], M) := fun b hb => by
    refine v_copyC_46_44 g M P _ _ _ _ _ _ ?_
    rw [hb, b1]
    by_cases h : (z.2.2.2 3).1 = -1
    · rw [if_pos (Or.inl h)] at hP
      rw [mb_t h]
      exact ⟨fun _ => stay _ _ rfl hP, fun y => absurd (by decide) y⟩
    · rw [mb_f h]
      exact ⟨fun y => absurd rfl y, fun _ => ⟨fun w => ⟨Or.inl rfl, kD h _ (mb_f w).symm⟩, fun w => ⟨Or.inr rfl, kD h _ (mb_t (Classical.not_not.mp w)).symm⟩⟩⟩
  refine v_copyB_46_44 g M P _ _ _ _ _ ?_
  rw [a1]
  exact ⟨fun w => ⟨Or.inl rfl, kC _ (mb_f w).symm⟩, fun w => ⟨Or.inr rfl, kC _ (mb_t (Classical.not_not.mp w)).symm⟩⟩
theorem v_copyB_46_46 (g : mG) (M : mM) (P : mP) (s i q j n : Int32)
    (h : (¬ (M 46 1) = (-1) → ((nI 0) = 0 ∨ (nI 0) = 1) ∧ (mRun (mSx g) (f_X7_copy g) P (32, [some (.inr (some 0)), some (.inl s), some (.inl i), some (.inl q), some (.inl j), some (.inl n), some (.inr (some 46)), some (.inr (some 46))], [.inl (nI 0)], M))) ∧ (¬ (¬ (M 46 1) = (-1)) → ((nI 1) = 0 ∨ (nI 1) = 1) ∧ (mRun (mSx g) (f_X7_copy g) P (32, [some (.inr (some 0)), some (.inl s), some (.inl i), some (.inl q), some (.inl j), some (.inl n), some (.inr (some 46)), some (.inr (some 46))], [.inl (nI 1)], M)))) :
    mRun (mSx g) (f_X7_copy g) P (12, [some (.inr (some 0)), some (.inl s), some (.inl i), some (.inl q), some (.inl j), some (.inl n), some (.inr (some 46)), none], [.inr (some 46)], M) := mRun.vc (m_X7_copy g) [32] 8 h

theorem v_copyC_46_46 (g : mG) (M : mM) (P : mP) (s i q j n : Int32) (b : Int32)
    (h : (¬ b = 0 → P (some (.inl (-11))) M) ∧ (¬ (¬ b = 0) → (¬ (M 46 1) = (-1) → ((nI 0) = 0 ∨ (nI 0) = 1) ∧ (mRun (mSx g) (f_X7_copy g) P (40, [some (.inr (some 0)), some (.inl s), some (.inl i), some (.inl q), some (.inl j), some (.inl n), some (.inr (some 46)), some (.inr (some 46))], [.inl (nI 0)], M))) ∧ (¬ (¬ (M 46 1) = (-1)) → ((nI 1) = 0 ∨ (nI 1) = 1) ∧ (mRun (mSx g) (f_X7_copy g) P (40, [some (.inr (some 0)), some (.inl s), some (.inl i), some (.inl q), some (.inl j), some (.inl n), some (.inr (some 46)), some (.inr (some 46))], [.inl (nI 1)], M))))) :
    mRun (mSx g) (f_X7_copy g) P (32, [some (.inr (some 0)), some (.inl s), some (.inl i), some (.inl q), some (.inl j), some (.inl n), some (.inr (some 46)), some (.inr (some 46))], [.inl b], M) := mRun.vc (m_X7_copy g) [40] 4 h

theorem v_copyD_46_46 (g : mG) (M : mM) (P : mP) (s i q j n : Int32) (b : Int32)
    (h : (b = 0 → ((M 46 1) = (M 46 1) → (i < 0 → ((nI 0) = 0 ∨ (nI 0) = 1) ∧ (mRun (mSx g) (f_X7_copy g) P (70, [some (.inr (some 0)), some (.inl s), some (.inl i), some (.inl q), some (.inl j), some (.inl n), some (.inr (some 46)), some (.inr (some 46))], [.inl (nI 0)], M))) ∧ (¬ (i < 0) → (n < 0 → ((nI 0) = 0 ∨ (nI 0) = 1) ∧ (mRun (mSx g) (f_X7_copy g) P (70, [some (.inr (some 0)), some (.inl s), some (.inl i), some (.inl q), some (.inl j), some (.inl n), some (.inr (some 46)), some (.inr (some 46))], [.inl (nI 0)], M))) ∧ (¬ (n < 0) → ((M 46 2) < n → ((nI 0) = 0 ∨ (nI 0) = 1) ∧ (mRun (mSx g) (f_X7_copy g) P (70, [some (.inr (some 0)), some (.inl s), some (.inl i), some (.inl q), some (.inl j), some (.inl n), some (.inr (some 46)), some (.inr (some 46))], [.inl (nI 0)], M))) ∧ (¬ ((M 46 2) < n) → (((M 46 2) - n) < i → ((nI 0) = 0 ∨ (nI 0) = 1) ∧ (mRun (mSx g) (f_X7_copy g) P (70, [some (.inr (some 0)), some (.inl s), some (.inl i), some (.inl q), some (.inl j), some (.inl n), some (.inr (some 46)), some (.inr (some 46))], [.inl (nI 0)], M))) ∧ (¬ (((M 46 2) - n) < i) → ((nI 1) = 0 ∨ (nI 1) = 1) ∧ (mRun (mSx g) (f_X7_copy g) P (70, [some (.inr (some 0)), some (.inl s), some (.inl i), some (.inl q), some (.inl j), some (.inl n), some (.inr (some 46)), some (.inr (some 46))], [.inl (nI 1)], M))))))) ∧ (¬ ((M 46 1) = (M 46 1)) → P (some (.inl (-13))) M)) ∧ (¬ (b = 0) → P (some (.inl (-11))) M)) :
    mRun (mSx g) (f_X7_copy g) P (40, [some (.inr (some 0)), some (.inl s), some (.inl i), some (.inl q), some (.inl j), some (.inl n), some (.inr (some 46)), some (.inr (some 46))], [.inl b], M) := mRun.vc (m_X7_copy g) [70] 11 h

theorem v_copyE_46_46 (g : mG) (M : mM) (P : mP) (s i q j n : Int32) (b : Int32)
    (h : (b = 0 → P (some (.inl (-12))) M) ∧ (¬ (b = 0) → (j < 0 → ((nI 0) = 0 ∨ (nI 0) = 1) ∧ (mRun (mSx g) (f_X7_copy g) P (82, [some (.inr (some 0)), some (.inl s), some (.inl i), some (.inl q), some (.inl j), some (.inl n), some (.inr (some 46)), some (.inr (some 46))], [.inl (nI 0)], M))) ∧ (¬ (j < 0) → (n < 0 → ((nI 0) = 0 ∨ (nI 0) = 1) ∧ (mRun (mSx g) (f_X7_copy g) P (82, [some (.inr (some 0)), some (.inl s), some (.inl i), some (.inl q), some (.inl j), some (.inl n), some (.inr (some 46)), some (.inr (some 46))], [.inl (nI 0)], M))) ∧ (¬ (n < 0) → ((M 46 2) < n → ((nI 0) = 0 ∨ (nI 0) = 1) ∧ (mRun (mSx g) (f_X7_copy g) P (82, [some (.inr (some 0)), some (.inl s), some (.inl i), some (.inl q), some (.inl j), some (.inl n), some (.inr (some 46)), some (.inr (some 46))], [.inl (nI 0)], M))) ∧ (¬ ((M 46 2) < n) → (((M 46 2) - n) < j → ((nI 0) = 0 ∨ (nI 0) = 1) ∧ (mRun (mSx g) (f_X7_copy g) P (82, [some (.inr (some 0)), some (.inl s), some (.inl i), some (.inl q), some (.inl j), some (.inl n), some (.inr (some 46)), some (.inr (some 46))], [.inl (nI 0)], M))) ∧ (¬ (((M 46 2) - n) < j) → ((nI 1) = 0 ∨ (nI 1) = 1) ∧ (mRun (mSx g) (f_X7_copy g) P (82, [some (.inr (some 0)), some (.inl s), some (.inl i), some (.inl q), some (.inl j), some (.inl n), some (.inr (some 46)), some (.inr (some 46))], [.inl (nI 1)], M)))))))) :
    mRun (mSx g) (f_X7_copy g) P (70, [some (.inr (some 0)), some (.inl s), some (.inl i), some (.inl q), some (.inl j), some (.inl n), some (.inr (some 46)), some (.inr (some 46))], [.inl b], M) := mRun.vc (m_X7_copy g) [82] 6 h

theorem v_copyF_46_46 (g : mG) (M : mM) (P : mP) (s i q j n : Int32) (b : Int32)
    (h : (¬ b = 0 → ∃ n2 n3 : Nat, (∃ ra, (mSx g)[47]? = some (0, n2, ra)) ∧ (∃ rb, (mSx g)[47]? = some (0, n3, rb)) ∧ ¬ i < 0 ∧ ¬ j < 0 ∧ ¬ n < 0 ∧ i.toNatClampNeg + n.toNatClampNeg ≤ n2 ∧ j.toNatClampNeg + n.toNatClampNeg ≤ n3 ∧ (let M6 : mM := mUp M 47 (va_cpy (M 47) (M 47) i.toNatClampNeg j.toNatClampNeg n.toNatClampNeg); P (some (.inl n)) M6)) ∧ (¬ (¬ b = 0) → P (some (.inl (-12))) M)) :
    mRun (mSx g) (f_X7_copy g) P (82, [some (.inr (some 0)), some (.inl s), some (.inl i), some (.inl q), some (.inl j), some (.inl n), some (.inr (some 46)), some (.inr (some 46))], [.inl b], M) := mRun.vc (m_X7_copy g) [] 11 h

theorem copy_run_46_46 (g : mG) (M : mM) (P : mP) (z : aZ) (i j n : Int32) (hR : RpC M z) (hI : zInv z) (hP : pubP M P (F_copy z [nI 3, i, nI 3, j, n])) :
    mRun (mSx g) (f_X7_copy g) P (12, [some (.inr (some 0)), some (.inl (nI 3)), some (.inl i), some (.inl (nI 3)), some (.inl j), some (.inl n), some (.inr (some 46)), none], [.inr (some 46)], M) := by
  have hc : F_copy z [nI 3, i, nI 3, j, n] = if (z.2.2.2 3).1 = -1 ∨ (z.2.2.2 3).1 = -1 then (-11, z) else if ¬ (z.2.2.2 3).1 = (z.2.2.2 3).1 then (-13, z) else if dHld (z.2.2.2 3).2.1 i n = true ∧ dHld (z.2.2.2 3).2.1 j n = true then (n, zS z 3 ((z.2.2.2 3).1, (z.2.2.2 3).2.1, va_cpy (z.2.2.2 3).2.2 (z.2.2.2 3).2.2 (ub i) (ub j) (ub n))) else (-12, z) := rfl
  rw [hc] at hP
  have hz1 := (hI.2.2.2 3 (by decide)).2.1
  have hz2 := (hI.2.2.2 3 (by decide)).2.1
  have hS1 := hR.2.2.2.2.1 3 (by decide)
  have hS2 := hR.2.2.2.2.1 3 (by decide)
  have a1 : M 46 1 = (z.2.2.2 3).1 := hS1.1
  have a2 : M 46 2 = nI (z.2.2.2 3).2.1 := hS1.2.1
  have b1 : M 46 1 = (z.2.2.2 3).1 := hS2.1
  have b2 : M 46 2 = nI (z.2.2.2 3).2.1 := hS2.2.1
  have stay : ∀ v w : Int32, v = w → pubP M P (w, z) → P (some (.inl v)) M := fun v w e h => h v M e hR FrC.refl
  have kF : ¬ ((z.2.2.2 3).1 = -1 ∨ (z.2.2.2 3).1 = -1) → (z.2.2.2 3).1 = (z.2.2.2 3).1 → dHld (z.2.2.2 3).2.1 i n = true → ∀ b, b = mb (dHld (z.2.2.2 3).2.1 j n = true) → mRun (mSx g) (f_X7_copy g) P (82, [some (.inr (some 0)), some (.inl (nI 3)), some (.inl i), some (.inl (nI 3)), some (.inl j), some (.inl n), some (.inr (some 46)), some (.inr (some 46))], [.inl b], M) := fun w1 w2 w3 b hb => by
    rw [if_neg w1, if_neg (fun y => y w2)] at hP
    refine v_copyF_46_46 g M P _ _ _ _ _ _ ?_
    rw [hb]
    by_cases h : dHld (z.2.2.2 3).2.1 j n = true
    · rw [if_pos ⟨w3, h⟩] at hP
      rw [mb_t h]
      refine ⟨fun _ => ?_, fun y => absurd (by decide) y⟩
      obtain ⟨a, m, rfl, rfl, ham⟩ := dHld_t hz1 w3
      obtain ⟨b, m', rfl, hm', hbm⟩ := dHld_t hz2 h
      have hlen : m ≤ 40 ∧ m' ≤ 40 := ⟨by omega, by omega⟩
      obtain rfl : m = m' := by
        have := congrArg Int32.toInt hm'
        rw [nI_toInt (by omega), nI_toInt (by omega)] at this
        omega
      rw [ub_nI (by omega), ub_nI (by omega), ub_nI (by omega)] at hP
      have ca : (nI a).toNatClampNeg = a := nI_clamp (by omega)
      have cb : (nI b).toNatClampNeg = b := nI_clamp (by omega)
      have cm : (nI m).toNatClampNeg = m := nI_clamp (by omega)
      refine ⟨40, 40, ⟨_, mSx_at rfl⟩, ⟨_, mSx_at rfl⟩, nI_pos (by omega), nI_pos (by omega), nI_pos (by omega), by rw [ca, cm]; omega, by rw [cb, cm]; omega, ?_⟩
      rw [ca, cb, cm]
      intro M2
      refine hP _ M2 rfl (RpC_sheet hR (by decide) ⟨?_, ?_, fun y hy => ?_⟩ (fun d h1 h2 => mUp_ne h2)) (fun d h1 => mUp_ne (by omega))
      · show mUp M 47 _ 46 1 = _
        rw [mUp_ne (by decide)]
        exact b1
      · show mUp M 47 _ 46 2 = _
        rw [mUp_ne (by decide)]
        exact b2
      · show mUp M 47 _ 47 y = shC (z.2.2.2 3).1 (va_cpy (z.2.2.2 3).2.2 (z.2.2.2 3).2.2 a b m y)
        rw [mUp_at]
        by_cases hy2 : b ≤ y ∧ y < b + m
        · rw [pk_cpy_in hy2.1 hy2.2, pk_cpy_in hy2.1 hy2.2, ← w2]
          exact hS1.2.2 _ (by omega)
        · rw [pk_cpy_out (by omega), pk_cpy_out (by omega)]
          exact hS2.2.2 y hy
    · rw [if_neg (fun y => h y.2)] at hP
      rw [mb_f h]
      exact ⟨fun y => absurd rfl y, fun _ => stay _ _ rfl hP⟩
  have kE : ¬ ((z.2.2.2 3).1 = -1 ∨ (z.2.2.2 3).1 = -1) → (z.2.2.2 3).1 = (z.2.2.2 3).1 → ∀ b, b = mb (dHld (z.2.2.2 3).2.1 i n = true) → mRun (mSx g) (f_X7_copy g) P (70, [some (.inr (some 0)), some (.inl (nI 3)), some (.inl i), some (.inl (nI 3)), some (.inl j), some (.inl n), some (.inr (some 46)), some (.inr (some 46))], [.inl b], M) := fun w1 w2 b hb => by
    refine v_copyE_46_46 g M P _ _ _ _ _ _ ?_
    rw [hb, b2]
    by_cases h : dHld (z.2.2.2 3).2.1 i n = true
    · rw [mb_t h]
      exact ⟨fun y => absurd y (by decide), fun _ => hold_cs b (A := True) (fun v => mRun (mSx g) (f_X7_copy g) P (82, [some (.inr (some 0)), some (.inl (nI 3)), some (.inl i), some (.inl (nI 3)), some (.inl j), some (.inl n), some (.inr (some 46)), some (.inr (some 46))], [.inl v], M)) (kF w1 w2 h) hz2⟩
    · rw [if_neg w1, if_neg (fun y => y w2), if_neg (fun y => h y.1)] at hP
      rw [mb_f h]
      exact ⟨fun _ => stay _ _ rfl hP, fun y => absurd rfl y⟩
  have kD : ¬ (z.2.2.2 3).1 = -1 → ∀ b, b = mb ((z.2.2.2 3).1 = -1) → mRun (mSx g) (f_X7_copy g) P (40, [some (.inr (some 0)), some (.inl (nI 3)), some (.inl i), some (.inl (nI 3)), some (.inl j), some (.inl n), some (.inr (some 46)), some (.inr (some 46))], [.inl b], M) := fun w1 b hb => by
    refine v_copyD_46_46 g M P _ _ _ _ _ _ ?_
    rw [hb, a1]
    try rw [b1]
    rw [a2]
    by_cases h : (z.2.2.2 3).1 = -1
    · rw [if_pos (Or.inr h)] at hP
      rw [mb_t h]
      exact ⟨fun y => absurd y (by decide), fun _ => stay _ _ rfl hP⟩
    · have w : ¬ ((z.2.2.2 3).1 = -1 ∨ (z.2.2.2 3).1 = -1) := fun y => y.elim w1 h
      rw [mb_f h]
      refine ⟨fun _ => ⟨fun w2 => hold_cs b (A := True) (fun v => mRun (mSx g) (f_X7_copy g) P (70, [some (.inr (some 0)), some (.inl (nI 3)), some (.inl i), some (.inl (nI 3)), some (.inl j), some (.inl n), some (.inr (some 46)), some (.inr (some 46))], [.inl v], M)) (kE w w2) hz1, fun w2 => ?_⟩, fun y => absurd rfl y⟩
      rw [if_neg w, if_pos w2] at hP
      exact stay _ _ rfl hP
  have kC : ∀ b, b = mb ((z.2.2.2 3).1 = -1) → mRun (mSx g) (f_X7_copy g) P (32, [some (.inr (some 0)), some (.inl (nI 3)), some (.inl i), some (.inl (nI 3)), some (.inl j), some (.inl n), some (.inr (some 46)), some (.inr (some 46))], [.inl b], M) := fun b hb => by
    refine v_copyC_46_46 g M P _ _ _ _ _ _ ?_
    rw [hb, b1]
    by_cases h : (z.2.2.2 3).1 = -1
    · rw [if_pos (Or.inl h)] at hP
      rw [mb_t h]
      exact ⟨fun _ => stay _ _ rfl hP, fun y => absurd (by decide) y⟩
    · rw [mb_f h]
      exact ⟨fun y => absurd rfl y, fun _ => ⟨fun w => ⟨Or.inl rfl, kD h _ (mb_f w).symm⟩, fun w => ⟨Or.inr rfl, kD h _ (mb_t (Classical.not_not.mp w)).symm⟩⟩⟩
  refine v_copyB_46_46 g M P _ _ _ _ _ ?_
  rw [a1]
  exact ⟨fun w => ⟨Or.inl rfl, kC _ (mb_f w).symm⟩, fun w => ⟨Or.inr rfl, kC _ (mb_t (Classical.not_not.mp w)).symm⟩⟩
theorem run_X7_copy : mRunOf 8 t_X7_copy f_X7_copy := runC5 (by decide) (fun g M P z x y u v w hR hI hP => by
  refine v_copy_0 g M P x y u v w ?_
  rcases ix_cs x (n := 4) (by decide) with ⟨hx, e1⟩ | ⟨k, hk, rfl, e1⟩
  · rw [show F_copy z [x, y, u, v, w] = (-2, z) by simp only [F_copy, e1]] at hP
    rw [shR_no e1]
    refine v_copyA_N g M P _ _ _ _ _ ?_
    rcases ix_cs u (n := 4) (by decide) with ⟨hu, e2⟩ | ⟨m, hm, rfl, e2⟩
    · rw [shR_no e2]
      exact v_copyN_N g M P _ _ _ _ _ (hP _ _ rfl hR FrC.refl)
    · rw [shR_at hm]
      rcases (by omega : m = 0 ∨ m = 1 ∨ m = 2 ∨ m = 3) with rfl | rfl | rfl | rfl
      · exact v_copyN_40 g M P _ _ _ _ _ (hP _ _ rfl hR FrC.refl)
      · exact v_copyN_42 g M P _ _ _ _ _ (hP _ _ rfl hR FrC.refl)
      · exact v_copyN_44 g M P _ _ _ _ _ (hP _ _ rfl hR FrC.refl)
      · exact v_copyN_46 g M P _ _ _ _ _ (hP _ _ rfl hR FrC.refl)
  · rw [shR_at hk]
    rcases ix_cs u (n := 4) (by decide) with ⟨hu, e2⟩ | ⟨m, hm, rfl, e2⟩
    · rw [show F_copy z [nI k, y, u, v, w] = (-2, z) by simp only [F_copy, e1, e2]] at hP
      rcases (by omega : k = 0 ∨ k = 1 ∨ k = 2 ∨ k = 3) with rfl | rfl | rfl | rfl
      · refine v_copyA_40 g M P _ _ _ _ _ ?_
        rw [shR_no e2]
        exact v_copyM_40 g M P _ _ _ _ _ (hP _ _ rfl hR FrC.refl)
      · refine v_copyA_42 g M P _ _ _ _ _ ?_
        rw [shR_no e2]
        exact v_copyM_42 g M P _ _ _ _ _ (hP _ _ rfl hR FrC.refl)
      · refine v_copyA_44 g M P _ _ _ _ _ ?_
        rw [shR_no e2]
        exact v_copyM_44 g M P _ _ _ _ _ (hP _ _ rfl hR FrC.refl)
      · refine v_copyA_46 g M P _ _ _ _ _ ?_
        rw [shR_no e2]
        exact v_copyM_46 g M P _ _ _ _ _ (hP _ _ rfl hR FrC.refl)
    · rcases (by omega : k = 0 ∨ k = 1 ∨ k = 2 ∨ k = 3) with rfl | rfl | rfl | rfl
      · refine v_copyA_40 g M P _ _ _ _ _ ?_
        rw [shR_at hm]
        rcases (by omega : m = 0 ∨ m = 1 ∨ m = 2 ∨ m = 3) with rfl | rfl | rfl | rfl
        · exact copy_run_40_40 g M P z y v w hR hI hP
        · exact copy_run_40_42 g M P z y v w hR hI hP
        · exact copy_run_40_44 g M P z y v w hR hI hP
        · exact copy_run_40_46 g M P z y v w hR hI hP
      · refine v_copyA_42 g M P _ _ _ _ _ ?_
        rw [shR_at hm]
        rcases (by omega : m = 0 ∨ m = 1 ∨ m = 2 ∨ m = 3) with rfl | rfl | rfl | rfl
        · exact copy_run_42_40 g M P z y v w hR hI hP
        · exact copy_run_42_42 g M P z y v w hR hI hP
        · exact copy_run_42_44 g M P z y v w hR hI hP
        · exact copy_run_42_46 g M P z y v w hR hI hP
      · refine v_copyA_44 g M P _ _ _ _ _ ?_
        rw [shR_at hm]
        rcases (by omega : m = 0 ∨ m = 1 ∨ m = 2 ∨ m = 3) with rfl | rfl | rfl | rfl
        · exact copy_run_44_40 g M P z y v w hR hI hP
        · exact copy_run_44_42 g M P z y v w hR hI hP
        · exact copy_run_44_44 g M P z y v w hR hI hP
        · exact copy_run_44_46 g M P z y v w hR hI hP
      · refine v_copyA_46 g M P _ _ _ _ _ ?_
        rw [shR_at hm]
        rcases (by omega : m = 0 ∨ m = 1 ∨ m = 2 ∨ m = 3) with rfl | rfl | rfl | rfl
        · exact copy_run_46_40 g M P z y v w hR hI hP
        · exact copy_run_46_42 g M P z y v w hR hI hP
        · exact copy_run_46_44 g M P z y v w hR hI hP
        · exact copy_run_46_46 g M P z y v w hR hI hP)

theorem ok_X7_copy : mOK yX7_copy cX7_copy 8 (some .int) 2 t_X7_copy := mOK.of f_X7_copy (by decide) (fun _ => rfl) (fun g => mCodeOK kk_X7_copy) (fun g => mFldL fk_RX7 rfl) (fun g idx v h => by cases h) (fun g idx v h => by cases h) (mCalL (l := l_X7_copy) (List.forall_mem_cons.mpr ⟨mSite.V (idx := 246) ok_X7_sheetAt (by decide) (by decide) rv_X7_sheetAt wc_X7_sheetAt wk_RX7_246 wi_X7_sheetAt wl_X7_sheetAt wn_RX7 wd_X7_sheetAt, List.forall_mem_cons.mpr ⟨mSite.V (idx := 250) ok_X4_isMissing (by decide) (by decide) rv_X4_isMissing wc_X4_isMissing wk_RX7_250 wi_X4_isMissing wl_X4_isMissing wn_RX4 wd_X4_isMissing, List.forall_mem_cons.mpr ⟨mSite.V (idx := 284) ok_X4_holds (by decide) (by decide) rv_X4_holds wc_X4_holds wk_RX7_284 wi_X4_holds wl_X4_holds wn_RX4 wd_X4_holds, List.forall_mem_cons.mpr ⟨mSite.copy (idx := 288) (by decide) (mIn 549 (by decide +kernel) rfl) wnat_copy wst_copy wn_RJ10, fun _ h => absurd h List.not_mem_nil⟩⟩⟩⟩) (fun _ => rfl)) run_X7_copy

