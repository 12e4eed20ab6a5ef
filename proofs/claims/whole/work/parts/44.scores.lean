/-! ===== CLASS TrickHouse: strength, taken, score, table, total ===== -/
theorem toInt_1 : (1 : Int32).toInt = 1 := by decide
theorem fCard_ix (c : Int32) : fCard c = mb ((ix c 32).isSome = true) := by
  unfold fCard
  refine mb_congr ?_
  unfold ix
  split <;> simp_all
theorem fHouse_ix (c : Int32) : fHouse c = mb ((ix c 6).isSome = true) := by
  unfold fHouse
  refine mb_congr ?_
  unfold ix
  split <;> simp_all
theorem mb_no {α : Type} : mb ((none : Option α).isSome = true) = 0 := rfl
theorem mb_so {α : Type} {x : α} : mb ((some x).isSome = true) = 1 := rfl
def trumpI (T : aT) : Int32 := oI (T.2.1.2.1.map fun q => q.2.1)
def F_strength (z : aZ) (as : List Int32) : Int32 × aZ := (match as with
  | [c, t] => match ix c 32 with
    | none => -2
    | some j => match ix t 5 with
      | none => -2
      | some k => fStr (nI j) (nI k) (nI (zT z.2.1).1.2.2.1)
  | _ => 0, z)
abbrev t_X7_strength : mG → mT := pub 2 F_strength
theorem mo_X7_strength : mMn t_X7_strength := pub_mono
theorem rv_X7_strength : mHasR yX7_strength 2 t_X7_strength := pub_recv rfl
def k_X7_strength : List (Nat × mI) := [(0, .iload_n 1, 1, 1, 0, []),
  (1, .invokestatic 171, 3, 0, 0, []),
  (4, .ifCond .eq 12, 3, 16, 0, []),
  (7, .iload_n 2, 1, 2, 0, []),
  (8, .ifCond .lt 8, 3, 16, 0, []),
  (11, .iload_n 2, 1, 2, 0, []),
  (12, .iconst 5, 1, 0, nI 5, []),
  (13, .if_icmp .lt 6, 3, 19, 0, []),
  (16, .bipush (-2), 2, 0, -2, []),
  (18, .ireturn, 1, 0, 0, []),
  (19, .iload_n 1, 1, 1, 0, []),
  (20, .iload_n 2, 1, 2, 0, []),
  (21, .aload_n 0, 1, 0, 0, []),
  (22, .getfield 29, 3, 0, 0, []),
  (25, .getfield 174, 3, 0, 0, []),
  (28, .invokestatic 177, 3, 0, 0, []),
  (31, .ireturn, 1, 0, 0, [])]
theorem kk_X7_strength : (k_X7_strength.all fun e => mChk cX7_strength e.1 e.2) = true := by decide +kernel
def l_X7_strength : List (Nat × Nat × (mG → mT)) := [(3 * 171 + 1, 1, t_X7_isCard), (3 * 177 + 1, 3, t_X7_strengthOf)]
def f_X7_strength (g : mG) : mF := (mLk k_X7_strength, mLk fl_RX7, mLk (l_X7_strength.map fun e => (e.1, e.2.1, e.2.2 g)), mLk ([] : List (Nat × mV)), mLk ([] : List (Nat × mV)), some .int)
theorem m_X7_strength (g : mG) : mMono (f_X7_strength g) := mMonoL (g := g) (l := l_X7_strength) (List.forall_mem_cons.mpr ⟨mo_X7_isCard, List.forall_mem_cons.mpr ⟨mo_X7_strengthOf, fun _ h => absurd h List.not_mem_nil⟩⟩) rfl

theorem v_strength (g : mG) (M : mM) (P : mP) (x y : Int32)
    (h : ((fCard x) = 0 → P (some (.inl (-2))) M) ∧ (¬ ((fCard x) = 0) → (y < 0 → P (some (.inl (-2))) M) ∧ (¬ (y < 0) → (y < (nI 5) → P (some (.inl (fStr x y (M 13 5)))) M) ∧ (¬ (y < (nI 5)) → P (some (.inl (-2))) M)))) :
    mRun (mSx g) (f_X7_strength g) P (0, [some (.inr (some 0)), some (.inl x), some (.inl y)], [], M) := mRun.vc (m_X7_strength g) [] 15 h

theorem run_X7_strength : mRunOf 3 t_X7_strength f_X7_strength := runC2 (by decide) (fun g M P z x y hR hI hP => by
  obtain ⟨⟨-, -, r5, -⟩, -⟩ := hR.2.2.2.1
  have hQ : ∀ v, v = (F_strength z [x, y]).1 → P (some (.inl v)) M := fun v e => hP v M e hR FrC.refl
  refine v_strength g M P x y ?_
  rw [r5, fCard_ix]
  rcases ix_cs x (n := 32) (by decide) with ⟨hx, e1⟩ | ⟨j, hj, rfl, e1⟩
  · rw [show (F_strength z [x, y]).1 = -2 by simp only [F_strength, e1]] at hQ
    rw [e1, mb_no]
    refine ⟨fun h1 => ?_, fun h1 => ?_⟩
    · first
        | exact hQ _ rfl
        | (exfalso; simp (disch := omega) only [fa_lt, fa_le, fa_eq, nI_toInt, Int32.toInt_zero, toInt_m1, toInt_1] at h1 ; omega)
        | (exfalso; simp_all; done)
    · refine ⟨fun h2 => ?_, fun h2 => ?_⟩
      · first
          | exact hQ _ rfl
          | (exfalso; simp (disch := omega) only [fa_lt, fa_le, fa_eq, nI_toInt, Int32.toInt_zero, toInt_m1, toInt_1] at h1 h2 ; omega)
          | (exfalso; simp_all; done)
      · refine ⟨fun h3 => ?_, fun h3 => ?_⟩
        · first
            | exact hQ _ rfl
            | (exfalso; simp (disch := omega) only [fa_lt, fa_le, fa_eq, nI_toInt, Int32.toInt_zero, toInt_m1, toInt_1] at h1 h2 h3 ; omega)
            | (exfalso; simp_all; done)
        · first
            | exact hQ _ rfl
            | (exfalso; simp (disch := omega) only [fa_lt, fa_le, fa_eq, nI_toInt, Int32.toInt_zero, toInt_m1, toInt_1] at h1 h2 h3 ; omega)
            | (exfalso; simp_all; done)
  · rw [e1, mb_so]
    rcases ix_cs y (n := 5) (by decide) with ⟨hy, e2⟩ | ⟨k, hk, rfl, e2⟩
    · rw [show (F_strength z [nI j, y]).1 = -2 by simp only [F_strength, e1, e2]] at hQ
      refine ⟨fun h1 => ?_, fun h1 => ?_⟩
      · first
          | exact hQ _ rfl
          | (exfalso; simp (disch := omega) only [fa_lt, fa_le, fa_eq, nI_toInt, Int32.toInt_zero, toInt_m1, toInt_1] at h1 hy; omega)
          | (exfalso; simp_all; done)
      · refine ⟨fun h2 => ?_, fun h2 => ?_⟩
        · first
            | exact hQ _ rfl
            | (exfalso; simp (disch := omega) only [fa_lt, fa_le, fa_eq, nI_toInt, Int32.toInt_zero, toInt_m1, toInt_1] at h1 h2 hy; omega)
            | (exfalso; simp_all; done)
        · refine ⟨fun h3 => ?_, fun h3 => ?_⟩
          · first
              | exact hQ _ rfl
              | (exfalso; simp (disch := omega) only [fa_lt, fa_le, fa_eq, nI_toInt, Int32.toInt_zero, toInt_m1, toInt_1] at h1 h2 h3 hy; omega)
              | (exfalso; simp_all; done)
          · first
              | exact hQ _ rfl
              | (exfalso; simp (disch := omega) only [fa_lt, fa_le, fa_eq, nI_toInt, Int32.toInt_zero, toInt_m1, toInt_1] at h1 h2 h3 hy; omega)
              | (exfalso; simp_all; done)
    · rw [show (F_strength z [nI j, nI k]).1 = fStr (nI j) (nI k) (nI (zT z.2.1).1.2.2.1) by simp only [F_strength, e1, e2]] at hQ
      refine ⟨fun h1 => ?_, fun h1 => ?_⟩
      · first
          | exact hQ _ rfl
          | (exfalso; simp (disch := omega) only [fa_lt, fa_le, fa_eq, nI_toInt, Int32.toInt_zero, toInt_m1, toInt_1] at h1 ; omega)
          | (exfalso; simp_all; done)
      · refine ⟨fun h2 => ?_, fun h2 => ?_⟩
        · first
            | exact hQ _ rfl
            | (exfalso; simp (disch := omega) only [fa_lt, fa_le, fa_eq, nI_toInt, Int32.toInt_zero, toInt_m1, toInt_1] at h1 h2 ; omega)
            | (exfalso; simp_all; done)
        · refine ⟨fun h3 => ?_, fun h3 => ?_⟩
          · first
              | exact hQ _ rfl
              | (exfalso; simp (disch := omega) only [fa_lt, fa_le, fa_eq, nI_toInt, Int32.toInt_zero, toInt_m1, toInt_1] at h1 h2 h3 ; omega)
              | (exfalso; simp_all; done)
          · first
              | exact hQ _ rfl
              | (exfalso; simp (disch := omega) only [fa_lt, fa_le, fa_eq, nI_toInt, Int32.toInt_zero, toInt_m1, toInt_1] at h1 h2 h3 ; omega)
              | (exfalso; simp_all; done))

theorem ok_X7_strength : mOK yX7_strength cX7_strength 3 (some .int) 2 t_X7_strength := mOK.of f_X7_strength (by decide) (fun _ => rfl) (fun g => mCodeOK kk_X7_strength) (fun g => mFldL fk_RX7 rfl) (fun g idx v h => by cases h) (fun g idx v h => by cases h) (mCalL (l := l_X7_strength) (List.forall_mem_cons.mpr ⟨mSite.S (idx := 171) ok_X7_isCard (by decide) (by decide) wc_X7_isCard wk_RX7_171 wt_X7_isCard wn_RX7 wd_X7_isCard, List.forall_mem_cons.mpr ⟨mSite.S (idx := 177) ok_X7_strengthOf (by decide) (by decide) wc_X7_strengthOf wk_RX7_177 wt_X7_strengthOf wn_RX7 wd_X7_strengthOf, fun _ h => absurd h List.not_mem_nil⟩⟩) (fun _ => rfl)) run_X7_strength

def F_taken (z : aZ) (as : List Int32) : Int32 × aZ := (match as with
  | [c, t] => match ix c 32 with
    | none => -2
    | some j => match ix t 3 with
      | none => -2
      | some k => if (if k = 0 then nI (j / 8) = trumpI (zT z.2.1) else ¬ nI (j / 8) = trumpI (zT z.2.1) ∧ (k = 1 ∨ j % 8 = 7)) then nI (j % 8) else -13
  | _ => 0, z)
abbrev t_X7_taken : mG → mT := pub 2 F_taken
theorem mo_X7_taken : mMn t_X7_taken := pub_mono
theorem rv_X7_taken : mHasR yX7_taken 2 t_X7_taken := pub_recv rfl
def k_X7_taken : List (Nat × mI) := [(0, .iload_n 1, 1, 1, 0, []),
  (1, .invokestatic 171, 3, 0, 0, []),
  (4, .ifCond .eq 12, 3, 16, 0, []),
  (7, .iload_n 2, 1, 2, 0, []),
  (8, .ifCond .lt 8, 3, 16, 0, []),
  (11, .iload_n 2, 1, 2, 0, []),
  (12, .iconst 2, 1, 0, nI 2, []),
  (13, .if_icmp .le 6, 3, 19, 0, []),
  (16, .bipush (-2), 2, 0, -2, []),
  (18, .ireturn, 1, 0, 0, []),
  (19, .iload_n 1, 1, 1, 0, []),
  (20, .bipush 8, 2, 0, nI 8, []),
  (22, .irem, 1, 0, 0, []),
  (23, .istore_n 3, 1, 3, 0, []),
  (24, .iload_n 1, 1, 1, 0, []),
  (25, .bipush 8, 2, 0, nI 8, []),
  (27, .idiv, 1, 0, 0, []),
  (28, .aload_n 0, 1, 0, 0, []),
  (29, .getfield 29, 3, 0, 0, []),
  (32, .getfield 181, 3, 0, 0, []),
  (35, .getfield 185, 3, 0, 0, []),
  (38, .if_icmp .ne 7, 3, 45, 0, []),
  (41, .iconst 1, 1, 0, nI 1, []),
  (42, .goto 4, 3, 46, 0, []),
  (45, .iconst 0, 1, 0, nI 0, []),
  (46, .istore 4, 2, 4, 0, []),
  (48, .iload_n 2, 1, 2, 0, []),
  (49, .ifCond .ne 8, 3, 57, 0, []),
  (52, .iload 4, 2, 4, 0, []),
  (54, .goto 24, 3, 78, 0, []),
  (57, .iload 4, 2, 4, 0, []),
  (59, .ifCond .ne 18, 3, 77, 0, []),
  (62, .iload_n 2, 1, 2, 0, []),
  (63, .iconst 1, 1, 0, nI 1, []),
  (64, .if_icmp .eq 9, 3, 73, 0, []),
  (67, .iload_n 3, 1, 3, 0, []),
  (68, .bipush 7, 2, 0, nI 7, []),
  (70, .if_icmp .ne 7, 3, 77, 0, []),
  (73, .iconst 1, 1, 0, nI 1, []),
  (74, .goto 4, 3, 78, 0, []),
  (77, .iconst 0, 1, 0, nI 0, []),
  (78, .istore 5, 2, 5, 0, []),
  (80, .iload 5, 2, 5, 0, []),
  (82, .ifCond .eq 7, 3, 89, 0, []),
  (85, .iload_n 3, 1, 3, 0, []),
  (86, .goto 5, 3, 91, 0, []),
  (89, .bipush (-13), 2, 0, -13, []),
  (91, .ireturn, 1, 0, 0, [])]
theorem kk_X7_taken : (k_X7_taken.all fun e => mChk cX7_taken e.1 e.2) = true := by decide +kernel
def l_X7_taken : List (Nat × Nat × (mG → mT)) := [(3 * 171 + 1, 1, t_X7_isCard)]
def f_X7_taken (g : mG) : mF := (mLk k_X7_taken, mLk fl_RX7, mLk (l_X7_taken.map fun e => (e.1, e.2.1, e.2.2 g)), mLk ([] : List (Nat × mV)), mLk ([] : List (Nat × mV)), some .int)
theorem m_X7_taken (g : mG) : mMono (f_X7_taken g) := mMonoL (g := g) (l := l_X7_taken) (List.forall_mem_cons.mpr ⟨mo_X7_isCard, fun _ h => absurd h List.not_mem_nil⟩) rfl

theorem v_taken_0 (g : mG) (M : mM) (P : mP) (x y : Int32)
    (h : ((fCard x) = 0 → P (some (.inl (-2))) M) ∧ (¬ ((fCard x) = 0) → (y < 0 → P (some (.inl (-2))) M) ∧ (¬ (y < 0) → (y ≤ (nI 2) → ¬ (nI 8) = 0 ∧ (¬ (nI 8) = 0 ∧ ((¬ (x / (nI 8)) = (M 14 3) → mRun (mSx g) (f_X7_taken g) P (46, [some (.inr (some 0)), some (.inl x), some (.inl y), some (.inl (x - x / (nI 8) * (nI 8))), none, none], [.inl (nI 0)], M)) ∧ (¬ (¬ (x / (nI 8)) = (M 14 3)) → mRun (mSx g) (f_X7_taken g) P (46, [some (.inr (some 0)), some (.inl x), some (.inl y), some (.inl (x - x / (nI 8) * (nI 8))), none, none], [.inl (nI 1)], M))))) ∧ (¬ (y ≤ (nI 2)) → P (some (.inl (-2))) M)))) :
    mRun (mSx g) (f_X7_taken g) P (0, [some (.inr (some 0)), some (.inl x), some (.inl y), none, none, none], [], M) := mRun.vc (m_X7_taken g) [46] 23 h

theorem v_taken_46 (g : mG) (M : mM) (P : mP) (x y r b : Int32)
    (h : (¬ y = 0 → (¬ b = 0 → mRun (mSx g) (f_X7_taken g) P (78, [some (.inr (some 0)), some (.inl x), some (.inl y), some (.inl r), some (.inl b), none], [.inl (nI 0)], M)) ∧ (¬ (¬ b = 0) → (y = (nI 1) → mRun (mSx g) (f_X7_taken g) P (78, [some (.inr (some 0)), some (.inl x), some (.inl y), some (.inl r), some (.inl b), none], [.inl (nI 1)], M)) ∧ (¬ (y = (nI 1)) → (¬ r = (nI 7) → mRun (mSx g) (f_X7_taken g) P (78, [some (.inr (some 0)), some (.inl x), some (.inl y), some (.inl r), some (.inl b), none], [.inl (nI 0)], M)) ∧ (¬ (¬ r = (nI 7)) → mRun (mSx g) (f_X7_taken g) P (78, [some (.inr (some 0)), some (.inl x), some (.inl y), some (.inl r), some (.inl b), none], [.inl (nI 1)], M))))) ∧ (¬ (¬ y = 0) → mRun (mSx g) (f_X7_taken g) P (78, [some (.inr (some 0)), some (.inl x), some (.inl y), some (.inl r), some (.inl b), none], [.inl b], M))) :
    mRun (mSx g) (f_X7_taken g) P (46, [some (.inr (some 0)), some (.inl x), some (.inl y), some (.inl r), none, none], [.inl b], M) := mRun.vc (m_X7_taken g) [78] 14 h

theorem v_taken_78 (g : mG) (M : mM) (P : mP) (x y r b e : Int32)
    (h : (e = 0 → P (some (.inl (-13))) M) ∧ (¬ (e = 0) → P (some (.inl r)) M)) :
    mRun (mSx g) (f_X7_taken g) P (78, [some (.inr (some 0)), some (.inl x), some (.inl y), some (.inl r), some (.inl b), none], [.inl e], M) := mRun.vc (m_X7_taken g) [] 6 h

theorem run_X7_taken : mRunOf 6 t_X7_taken f_X7_taken := runC2 (by decide) (fun g M P z x y hR hI hP => by
  obtain ⟨-, ⟨-, -, -, -, b3, -⟩, -⟩ := hR.2.2.2.1
  have hQ : ∀ v, v = (F_taken z [x, y]).1 → P (some (.inl v)) M := fun v e => hP v M e hR FrC.refl
  refine v_taken_0 g M P x y ?_
  rw [fCard_ix, show M 14 3 = trumpI (zT z.2.1) from b3]
  rcases ix_cs x (n := 32) (by decide) with ⟨hx, e1⟩ | ⟨j, hj, rfl, e1⟩
  · rw [show (F_taken z [x, y]).1 = -2 by simp only [F_taken, e1]] at hQ
    rw [e1, mb_no]
    exact ⟨fun _ => hQ _ rfl, fun h => absurd rfl h⟩
  · rw [e1, mb_so]
    refine ⟨fun h => absurd h (by decide), fun _ => ?_⟩
    rcases ix_cs y (n := 3) (by decide) with ⟨hy, e2⟩ | ⟨k, hk, rfl, e2⟩
    · rw [show (F_taken z [nI j, y]).1 = -2 by simp only [F_taken, e1, e2]] at hQ
      refine ⟨fun _ => hQ _ rfl, fun h1 => ⟨fun h2 => ?_, fun _ => hQ _ rfl⟩⟩
      exfalso
      simp (disch := omega) only [fa_lt, fa_le, nI_toInt, Int32.toInt_zero] at hy h1 h2
      omega
    · rw [show (F_taken z [nI j, nI k]).1 = if (if k = 0 then nI (j / 8) = trumpI (zT z.2.1) else ¬ nI (j / 8) = trumpI (zT z.2.1) ∧ (k = 1 ∨ j % 8 = 7)) then nI (j % 8) else -13 by simp only [F_taken, e1, e2]] at hQ
      refine ⟨fun h => absurd h (nI_pos (by omega)), fun _ => ⟨fun _ => ⟨n8, ⟨n8, ?_⟩⟩, fun h => absurd (nI_le (by omega) (by decide)) h⟩⟩
      rw [show nI j - nI j / nI 8 * nI 8 = nI (j % 8) from pk_rem (by omega) (by decide) (by decide), nI_div8 (by omega)]
      have K78 : ∀ (e b : Int32), e = mb (if k = 0 then nI (j / 8) = trumpI (zT z.2.1) else ¬ nI (j / 8) = trumpI (zT z.2.1) ∧ (k = 1 ∨ j % 8 = 7)) → mRun (mSx g) (f_X7_taken g) P (78, [some (.inr (some 0)), some (.inl (nI j)), some (.inl (nI k)), some (.inl (nI (j % 8))), some (.inl b), none], [.inl e], M) := fun e b he => by
        refine v_taken_78 g M P _ _ _ _ _ ?_
        rw [he]
        by_cases h : (if k = 0 then nI (j / 8) = trumpI (zT z.2.1) else ¬ nI (j / 8) = trumpI (zT z.2.1) ∧ (k = 1 ∨ j % 8 = 7))
        · rw [if_pos h] at hQ
          rw [mb_t h]
          exact ⟨fun z => absurd z (by decide), fun _ => hQ _ rfl⟩
        · rw [if_neg h] at hQ
          rw [mb_f h]
          exact ⟨fun _ => hQ _ rfl, fun z => absurd rfl z⟩
      have n7 : nI (j % 8) = nI 7 ↔ j % 8 = 7 := nI_eq (by omega) (by decide)
      have k0 : nI k = 0 ↔ k = 0 := nI_eq (b := 0) (by omega) (by decide)
      have k1 : nI k = nI 1 ↔ k = 1 := nI_eq (by omega) (by decide)
      refine ⟨fun h => ?_, fun h => ?_⟩
      · refine v_taken_46 g M P _ _ _ _ ?_
        rw [n7, k0, k1]
        refine ⟨fun z0 => ⟨fun z => absurd rfl z, fun _ => ⟨fun z1 => K78 _ _ ?_, fun z1 => ⟨fun z2 => K78 _ _ ?_, fun z2 => K78 _ _ ?_⟩⟩⟩, fun z0 => K78 _ _ ?_⟩
        · rw [mb_t (by rw [if_neg z0]; exact ⟨h, Or.inl z1⟩)]; rfl
        · rw [mb_f (by rw [if_neg z0]; exact fun z => z.2.elim z1 z2)]; rfl
        · rw [mb_t (by rw [if_neg z0]; exact ⟨h, Or.inr (Classical.not_not.mp z2)⟩)]; rfl
        · rw [mb_f (by rw [if_pos (Classical.not_not.mp z0)]; exact h)]; rfl
      · have h' := Classical.not_not.mp h
        refine v_taken_46 g M P _ _ _ _ ?_
        rw [n7, k0, k1]
        refine ⟨fun z0 => ⟨fun _ => K78 _ _ ?_, fun z => absurd (by decide) z⟩, fun z0 => K78 _ _ ?_⟩
        · rw [mb_f (by rw [if_neg z0]; exact fun z => z.1 h')]; rfl
        · rw [mb_t (by rw [if_pos (Classical.not_not.mp z0)]; exact h')]; rfl)

theorem ok_X7_taken : mOK yX7_taken cX7_taken 6 (some .int) 2 t_X7_taken := mOK.of f_X7_taken (by decide) (fun _ => rfl) (fun g => mCodeOK kk_X7_taken) (fun g => mFldL fk_RX7 rfl) (fun g idx v h => by cases h) (fun g idx v h => by cases h) (mCalL (l := l_X7_taken) (List.forall_mem_cons.mpr ⟨mSite.S (idx := 171) ok_X7_isCard (by decide) (by decide) wc_X7_isCard wk_RX7_171 wt_X7_isCard wn_RX7 wd_X7_isCard, fun _ h => absurd h List.not_mem_nil⟩) (fun _ => rfl)) run_X7_taken

def F_score (z : aZ) (as : List Int32) : Int32 × aZ := (match as with
  | [h] => match ix h 6 with
    | none => -2
    | some j => match (zT z.2.1).2.2.2.1 with
      | none => 0
      | some q => fScore (nI j) (nI q.1) (nI q.2.1) (nI q.2.2.1) (nI q.2.2.2)
  | _ => 0, z)
abbrev t_X7_score : mG → mT := pub 1 F_score
theorem mo_X7_score : mMn t_X7_score := pub_mono
theorem rv_X7_score : mHasR yX7_score 1 t_X7_score := pub_recv rfl
def k_X7_score : List (Nat × mI) := [(0, .iload_n 1, 1, 1, 0, []),
  (1, .invokestatic 190, 3, 0, 0, []),
  (4, .ifCond .ne 6, 3, 10, 0, []),
  (7, .bipush (-2), 2, 0, -2, []),
  (9, .ireturn, 1, 0, 0, []),
  (10, .aload_n 0, 1, 0, 0, []),
  (11, .getfield 29, 3, 0, 0, []),
  (14, .getfield 193, 3, 0, 0, []),
  (17, .astore_n 2, 1, 2, 0, []),
  (18, .aload_n 2, 1, 2, 0, []),
  (19, .getfield 197, 3, 0, 0, []),
  (22, .ifCond .ne 5, 3, 27, 0, []),
  (25, .iconst 0, 1, 0, nI 0, []),
  (26, .ireturn, 1, 0, 0, []),
  (27, .iload_n 1, 1, 1, 0, []),
  (28, .aload_n 2, 1, 2, 0, []),
  (29, .getfield 203, 3, 0, 0, []),
  (32, .aload_n 2, 1, 2, 0, []),
  (33, .getfield 206, 3, 0, 0, []),
  (36, .aload_n 2, 1, 2, 0, []),
  (37, .getfield 207, 3, 0, 0, []),
  (40, .aload_n 2, 1, 2, 0, []),
  (41, .getfield 208, 3, 0, 0, []),
  (44, .invokestatic 211, 3, 0, 0, []),
  (47, .ireturn, 1, 0, 0, [])]
theorem kk_X7_score : (k_X7_score.all fun e => mChk cX7_score e.1 e.2) = true := by decide +kernel
def l_X7_score : List (Nat × Nat × (mG → mT)) := [(3 * 190 + 1, 1, t_X7_isHouse), (3 * 211 + 1, 5, t_X7_scoreBy)]
def f_X7_score (g : mG) : mF := (mLk k_X7_score, mLk fl_RX7, mLk (l_X7_score.map fun e => (e.1, e.2.1, e.2.2 g)), mLk ([] : List (Nat × mV)), mLk ([] : List (Nat × mV)), some .int)
theorem m_X7_score (g : mG) : mMono (f_X7_score g) := mMonoL (g := g) (l := l_X7_score) (List.forall_mem_cons.mpr ⟨mo_X7_isHouse, List.forall_mem_cons.mpr ⟨mo_X7_scoreBy, fun _ h => absurd h List.not_mem_nil⟩⟩) rfl

theorem v_score (g : mG) (M : mM) (P : mP) (x : Int32)
    (h : (¬ (fHouse x) = 0 → (¬ (M 24 1) = 0 → P (some (.inl (fScore x (M 24 2) (M 24 3) (M 24 4) (M 24 5)))) M) ∧ (¬ (¬ (M 24 1) = 0) → P (some (.inl (nI 0))) M)) ∧ (¬ (¬ (fHouse x) = 0) → P (some (.inl (-2))) M)) :
    mRun (mSx g) (f_X7_score g) P (0, [some (.inr (some 0)), some (.inl x), none], [], M) := mRun.vc (m_X7_score g) [] 21 h

theorem run_X7_score : mRunOf 3 t_X7_score f_X7_score := runC1 (by decide) (fun g M P z x hR hI hP => by
  obtain ⟨-, -, -, s1, s2, -⟩ := hR.2.2.2.1
  have hQ : ∀ v, v = (F_score z [x]).1 → P (some (.inl v)) M := fun v e => hP v M e hR FrC.refl
  refine v_score g M P x ?_
  rw [fHouse_ix, show M 24 1 = _ from s1]
  rcases ix_cs x (n := 6) (by decide) with ⟨hx, e1⟩ | ⟨j, hj, rfl, e1⟩
  · rw [show (F_score z [x]).1 = -2 by simp only [F_score, e1]] at hQ
    rw [e1, mb_no]
    exact ⟨fun h => absurd rfl h, fun _ => hQ _ rfl⟩
  · rw [e1, mb_so]
    refine ⟨fun _ => ?_, fun h => absurd (by decide) h⟩
    cases hs : (zT z.2.1).2.2.2.1 with
    | none =>
      rw [show (F_score z [nI j]).1 = 0 by simp only [F_score, e1, hs]] at hQ
      exact ⟨fun h => absurd rfl h, fun _ => hQ _ rfl⟩
    | some q =>
      obtain ⟨q1, q2, q3, q4⟩ := s2 q hs
      rw [show (F_score z [nI j]).1 = fScore (nI j) (nI q.1) (nI q.2.1) (nI q.2.2.1) (nI q.2.2.2) by simp only [F_score, e1, hs]] at hQ
      refine ⟨fun _ => hQ _ ?_, fun h => absurd (show ¬ (1 : Int32) = 0 by decide) h⟩
      rw [show M 24 2 = _ from q1, show M 24 3 = _ from q2, show M 24 4 = _ from q3, show M 24 5 = _ from q4])

theorem ok_X7_score : mOK yX7_score cX7_score 3 (some .int) 2 t_X7_score := mOK.of f_X7_score (by decide) (fun _ => rfl) (fun g => mCodeOK kk_X7_score) (fun g => mFldL fk_RX7 rfl) (fun g idx v h => by cases h) (fun g idx v h => by cases h) (mCalL (l := l_X7_score) (List.forall_mem_cons.mpr ⟨mSite.S (idx := 190) ok_X7_isHouse (by decide) (by decide) wc_X7_isHouse wk_RX7_190 wt_X7_isHouse wn_RX7 wd_X7_isHouse, List.forall_mem_cons.mpr ⟨mSite.S (idx := 211) ok_X7_scoreBy (by decide) (by decide) wc_X7_scoreBy wk_RX7_211 wt_X7_scoreBy wn_RX7 wd_X7_scoreBy, fun _ h => absurd h List.not_mem_nil⟩⟩) (fun _ => rfl)) run_X7_score

def F_total (z : aZ) (as : List Int32) : Int32 × aZ := (match as with
  | [s, h] => match ix s 2 with
    | none => -2
    | some k => match ix h 6 with
      | none => -2
      | some j => (zT z.2.1).2.2.2.2 (6 * k + j)
  | _ => 0, z)
abbrev t_X7_total : mG → mT := pub 2 F_total
theorem mo_X7_total : mMn t_X7_total := pub_mono
theorem rv_X7_total : mHasR yX7_total 2 t_X7_total := pub_recv rfl
def k_X7_total : List (Nat × mI) := [(0, .iload_n 1, 1, 1, 0, []),
  (1, .ifCond .lt 15, 3, 16, 0, []),
  (4, .iload_n 1, 1, 1, 0, []),
  (5, .iconst 1, 1, 0, nI 1, []),
  (6, .if_icmp .gt 10, 3, 16, 0, []),
  (9, .iload_n 2, 1, 2, 0, []),
  (10, .invokestatic 190, 3, 0, 0, []),
  (13, .ifCond .ne 6, 3, 19, 0, []),
  (16, .bipush (-2), 2, 0, -2, []),
  (18, .ireturn, 1, 0, 0, []),
  (19, .aload_n 0, 1, 0, 0, []),
  (20, .getfield 29, 3, 0, 0, []),
  (23, .getfield 193, 3, 0, 0, []),
  (26, .iload_n 1, 1, 1, 0, []),
  (27, .iload_n 2, 1, 2, 0, []),
  (28, .invokevirtual 215, 3, 0, 0, []),
  (31, .ireturn, 1, 0, 0, [])]
theorem kk_X7_total : (k_X7_total.all fun e => mChk cX7_total e.1 e.2) = true := by decide +kernel
def l_X7_total : List (Nat × Nat × (mG → mT)) := [(3 * 190 + 1, 1, t_X7_isHouse), (3 * 215, 2 + 1, t_X3_totalOf)]
def f_X7_total (g : mG) : mF := (mLk k_X7_total, mLk fl_RX7, mLk (l_X7_total.map fun e => (e.1, e.2.1, e.2.2 g)), mLk ([] : List (Nat × mV)), mLk ([] : List (Nat × mV)), some .int)
theorem m_X7_total (g : mG) : mMono (f_X7_total g) := mMonoL (g := g) (l := l_X7_total) (List.forall_mem_cons.mpr ⟨mo_X7_isHouse, List.forall_mem_cons.mpr ⟨mo_X3_totalOf, fun _ h => absurd h List.not_mem_nil⟩⟩) rfl

theorem v_total (g : mG) (M : mM) (P : mP) (x y : Int32)
    (h : (x < 0 → P (some (.inl (-2))) M) ∧ (¬ (x < 0) → ((nI 1) < x → P (some (.inl (-2))) M) ∧ (¬ ((nI 1) < x) → (¬ (fHouse y) = 0 → (P (some (.inl (aAt (M 25) 12 ((x * (nI 6)) + y)))) M)) ∧ (¬ (¬ (fHouse y) = 0) → P (some (.inl (-2))) M)))) :
    mRun (mSx g) (f_X7_total g) P (0, [some (.inr (some 0)), some (.inl x), some (.inl y)], [], M) := mRun.vc (m_X7_total g) [] 15 h

theorem run_X7_total : mRunOf 3 t_X7_total f_X7_total := runC2 (by decide) (fun g M P z x y hR hI hP => by
  obtain ⟨-, -, -, -, -, s3⟩ := hR.2.2.2.1
  have hQ : ∀ v, v = (F_total z [x, y]).1 → P (some (.inl v)) M := fun v e => hP v M e hR FrC.refl
  refine v_total g M P x y ?_
  rw [fHouse_ix]
  rcases ix_cs x (n := 2) (by decide) with ⟨hx, e1⟩ | ⟨k, hk, rfl, e1⟩
  · rw [show (F_total z [x, y]).1 = -2 by simp only [F_total, e1]] at hQ
    refine ⟨fun _ => hQ _ rfl, fun h1 => ⟨fun _ => hQ _ rfl, fun h2 => ?_⟩⟩
    exfalso
    simp (disch := omega) only [fa_lt, fa_le, nI_toInt, Int32.toInt_zero] at hx h1 h2
    omega
  · refine ⟨fun h => absurd h (nI_pos (by omega)), fun _ => ⟨fun h => absurd h (nI_nlt (by omega) (by decide)), fun _ => ?_⟩⟩
    rcases ix_cs y (n := 6) (by decide) with ⟨hy, e2⟩ | ⟨j, hj, rfl, e2⟩
    · rw [show (F_total z [nI k, y]).1 = -2 by simp only [F_total, e1, e2]] at hQ
      rw [e2, mb_no]
      exact ⟨fun h => absurd rfl h, fun _ => hQ _ rfl⟩
    · rw [show (F_total z [nI k, nI j]).1 = (zT z.2.1).2.2.2.2 (6 * k + j) by simp only [F_total, e1, e2]] at hQ
      rw [e2, mb_so]
      refine ⟨fun _ => hQ _ ?_, fun h => absurd (by decide) h⟩
      rw [pk_mul, nI_add, aAt_in (by omega) (by decide), Nat.mul_comm]
      exact s3 _ (by omega))

theorem ok_X7_total : mOK yX7_total cX7_total 3 (some .int) 3 t_X7_total := mOK.of f_X7_total (by decide) (fun _ => rfl) (fun g => mCodeOK kk_X7_total) (fun g => mFldL fk_RX7 rfl) (fun g idx v h => by cases h) (fun g idx v h => by cases h) (mCalL (l := l_X7_total) (List.forall_mem_cons.mpr ⟨mSite.S (idx := 190) ok_X7_isHouse (by decide) (by decide) wc_X7_isHouse wk_RX7_190 wt_X7_isHouse wn_RX7 wd_X7_isHouse, List.forall_mem_cons.mpr ⟨mSite.V (idx := 215) ok_X3_totalOf (by decide) (by decide) rv_X3_totalOf wc_X3_totalOf wk_RX7_215 wi_X3_totalOf wl_X3_totalOf wn_RX3 wd_X3_totalOf, fun _ h => absurd h List.not_mem_nil⟩⟩) (fun _ => rfl)) run_X7_total

def F_table (z : aZ) (as : List Int32) : Int32 × aZ := (match as with
  | [h, m, b, t, d] => match ix h 6 with
    | none => -2
    | some h => match ix m 9 with
      | none => -2
      | some m => match ix (b - nI 4) 5 with
        | none => -2
        | some b => match ix t 5 with
          | none => -2
          | some t => match ix d 3 with
            | none => -2
            | some d => fScore (nI h) (nI m) (nI (b + 4)) (nI t) (nI d)
  | _ => 0, z)
theorem ix_4 {b : Int32} : ((b < nI 4 ∨ nI 8 < b) ∧ ix (b - nI 4) 5 = none) ∨ ∃ j, j < 5 ∧ b = nI (j + 4) ∧ ix (b - nI 4) 5 = some j := by
  rcases ix_cs (b - nI 4) (n := 5) (by decide) with ⟨h, e⟩ | ⟨j, hj, h, e⟩
  · refine Or.inl ⟨?_, e⟩
    rcases pk_ix b (n := 9) (by decide) with h1 | h1 | ⟨i, hi, rfl⟩
    · left
      simp (disch := omega) only [fa_lt, nI_toInt, Int32.toInt_zero] at h1 ⊢
      omega
    · right
      simp (disch := omega) only [fa_lt, fa_le, nI_toInt, Int32.toInt_zero] at h1 ⊢
      omega
    · rcases Nat.lt_or_ge i 4 with hi4 | hi4
      · exact Or.inl (nI_lt hi4 (by decide))
      · rw [pk_sub hi4, ix_at (by omega) (by decide)] at e
        cases e
  · refine Or.inr ⟨j, hj, ?_, e⟩
    rw [← nI_add, ← h]
    exact (Int32.sub_add_cancel b (nI 4)).symm
abbrev t_X7_table : mG → mT := pub 5 F_table
theorem mo_X7_table : mMn t_X7_table := pub_mono
theorem rv_X7_table : mHasR yX7_table 5 t_X7_table := pub_recv rfl
def k_X7_table : List (Nat × mI) := [(0, .iload_n 1, 1, 1, 0, []),
  (1, .invokestatic 190, 3, 0, 0, []),
  (4, .ifCond .eq 24, 3, 28, 0, []),
  (7, .iload_n 2, 1, 2, 0, []),
  (8, .ifCond .lt 20, 3, 28, 0, []),
  (11, .iload_n 2, 1, 2, 0, []),
  (12, .bipush 8, 2, 0, nI 8, []),
  (14, .if_icmp .gt 14, 3, 28, 0, []),
  (17, .iload_n 3, 1, 3, 0, []),
  (18, .iconst 4, 1, 0, nI 4, []),
  (19, .if_icmp .lt 9, 3, 28, 0, []),
  (22, .iload_n 3, 1, 3, 0, []),
  (23, .bipush 8, 2, 0, nI 8, []),
  (25, .if_icmp .le 6, 3, 31, 0, []),
  (28, .bipush (-2), 2, 0, -2, []),
  (30, .ireturn, 1, 0, 0, []),
  (31, .iload 4, 2, 4, 0, []),
  (33, .ifCond .lt 20, 3, 53, 0, []),
  (36, .iload 4, 2, 4, 0, []),
  (38, .iconst 5, 1, 0, nI 5, []),
  (39, .if_icmp .ge 14, 3, 53, 0, []),
  (42, .iload 5, 2, 5, 0, []),
  (44, .ifCond .lt 9, 3, 53, 0, []),
  (47, .iload 5, 2, 5, 0, []),
  (49, .iconst 2, 1, 0, nI 2, []),
  (50, .if_icmp .le 6, 3, 56, 0, []),
  (53, .bipush (-2), 2, 0, -2, []),
  (55, .ireturn, 1, 0, 0, []),
  (56, .iload_n 1, 1, 1, 0, []),
  (57, .iload_n 2, 1, 2, 0, []),
  (58, .iload_n 3, 1, 3, 0, []),
  (59, .iload 4, 2, 4, 0, []),
  (61, .iload 5, 2, 5, 0, []),
  (63, .invokestatic 211, 3, 0, 0, []),
  (66, .ireturn, 1, 0, 0, [])]
theorem kk_X7_table : (k_X7_table.all fun e => mChk cX7_table e.1 e.2) = true := by decide +kernel
def l_X7_table : List (Nat × Nat × (mG → mT)) := [(3 * 190 + 1, 1, t_X7_isHouse), (3 * 211 + 1, 5, t_X7_scoreBy)]
def f_X7_table (g : mG) : mF := (mLk k_X7_table, mLk fl_RX7, mLk (l_X7_table.map fun e => (e.1, e.2.1, e.2.2 g)), mLk ([] : List (Nat × mV)), mLk ([] : List (Nat × mV)), some .int)
theorem m_X7_table (g : mG) : mMono (f_X7_table g) := mMonoL (g := g) (l := l_X7_table) (List.forall_mem_cons.mpr ⟨mo_X7_isHouse, List.forall_mem_cons.mpr ⟨mo_X7_scoreBy, fun _ h => absurd h List.not_mem_nil⟩⟩) rfl

theorem v_table (g : mG) (M : mM) (P : mP) (x y u v w : Int32)
    (h : ((fHouse x) = 0 → P (some (.inl (-2))) M) ∧ (¬ ((fHouse x) = 0) → (y < 0 → P (some (.inl (-2))) M) ∧ (¬ (y < 0) → ((nI 8) < y → P (some (.inl (-2))) M) ∧ (¬ ((nI 8) < y) → (u < (nI 4) → P (some (.inl (-2))) M) ∧ (¬ (u < (nI 4)) → (u ≤ (nI 8) → (v < 0 → P (some (.inl (-2))) M) ∧ (¬ (v < 0) → ((nI 5) ≤ v → P (some (.inl (-2))) M) ∧ (¬ ((nI 5) ≤ v) → (w < 0 → P (some (.inl (-2))) M) ∧ (¬ (w < 0) → (w ≤ (nI 2) → P (some (.inl (fScore x y u v w))) M) ∧ (¬ (w ≤ (nI 2)) → P (some (.inl (-2))) M))))) ∧ (¬ (u ≤ (nI 8)) → P (some (.inl (-2))) M)))))) :
    mRun (mSx g) (f_X7_table g) P (0, [some (.inr (some 0)), some (.inl x), some (.inl y), some (.inl u), some (.inl v), some (.inl w)], [], M) := mRun.vc (m_X7_table g) [] 31 h

set_option maxHeartbeats 1000000 in
theorem run_X7_table : mRunOf 6 t_X7_table f_X7_table := runC5 (by decide) (fun g M P z x y u v w hR hI hP => by
  have hQ : ∀ r, r = (F_table z [x, y, u, v, w]).1 → P (some (.inl r)) M := fun r e => hP r M e hR FrC.refl
  refine v_table g M P x y u v w ?_
  rw [fHouse_ix]
  rcases ix_cs x (n := 6) (by decide) with ⟨hx, e1⟩ | ⟨h, hh, rfl, e1⟩
  · rw [show (F_table z [x, y, u, v, w]).1 = -2 by simp only [F_table, e1]] at hQ
    rw [e1, mb_no]
    exact ⟨fun _ => hQ _ rfl, fun h => absurd rfl h⟩
  rw [e1, mb_so]
  refine ⟨fun h => absurd h (by decide), fun _ => ?_⟩
  rcases ix_cs y (n := 9) (by decide) with ⟨hx, e2⟩ | ⟨m, hm, rfl, e2⟩
  · rw [show (F_table z [nI h, y, u, v, w]).1 = -2 by simp only [F_table, e1, e2]] at hQ
    refine ⟨fun _ => hQ _ rfl, fun h1 => ⟨fun _ => hQ _ rfl, fun h2 => ?_⟩⟩
    exfalso
    simp (disch := omega) only [fa_lt, fa_le, nI_toInt, Int32.toInt_zero] at hx h1 h2
    omega
  refine ⟨fun h => absurd h (nI_pos (by omega)), fun _ => ⟨fun h => absurd h (nI_nlt (by omega) (by decide)), fun _ => ?_⟩⟩
  rcases ix_4 (b := u) with ⟨hx, e3⟩ | ⟨b, hb, rfl, e3⟩
  · rw [show (F_table z [nI h, nI m, u, v, w]).1 = -2 by simp only [F_table, e1, e2, e3]] at hQ
    refine ⟨fun _ => hQ _ rfl, fun h1 => ⟨fun h2 => ?_, fun _ => hQ _ rfl⟩⟩
    exact absurd (hx.resolve_left h1) (Int32.not_lt.mpr h2)
  refine ⟨fun h => absurd h (nI_nlt (by omega) (by omega)), fun _ => ⟨fun _ => ?_, fun h => absurd (nI_le (by omega) (by decide)) h⟩⟩
  rcases ix_cs v (n := 5) (by decide) with ⟨hx, e4⟩ | ⟨t, ht, rfl, e4⟩
  · rw [show (F_table z [nI h, nI m, nI (b + 4), v, w]).1 = -2 by simp only [F_table, e1, e2, e3, e4]] at hQ
    refine ⟨fun _ => hQ _ rfl, fun h1 => ⟨fun _ => hQ _ rfl, fun h2 => ?_⟩⟩
    exact absurd (hx.resolve_left h1) h2
  refine ⟨fun h => absurd h (nI_pos (by omega)), fun _ => ⟨fun h => absurd h (nI_ge (by omega) (by omega)), fun _ => ?_⟩⟩
  rcases ix_cs w (n := 3) (by decide) with ⟨hx, e5⟩ | ⟨d, hd, rfl, e5⟩
  · rw [show (F_table z [nI h, nI m, nI (b + 4), nI t, w]).1 = -2 by simp only [F_table, e1, e2, e3, e4, e5]] at hQ
    refine ⟨fun _ => hQ _ rfl, fun h1 => ⟨fun h2 => ?_, fun _ => hQ _ rfl⟩⟩
    exfalso
    simp (disch := omega) only [fa_lt, fa_le, nI_toInt, Int32.toInt_zero] at hx h1 h2
    omega
  rw [show (F_table z [nI h, nI m, nI (b + 4), nI t, nI d]).1 = fScore (nI h) (nI m) (nI (b + 4)) (nI t) (nI d) by simp only [F_table, e1, e2, e3, e4, e5]] at hQ
  exact ⟨fun h => absurd h (nI_pos (by omega)), fun _ => ⟨fun _ => hQ _ rfl, fun h => absurd (nI_le (by omega) (by decide)) h⟩⟩)

theorem ok_X7_table : mOK yX7_table cX7_table 6 (some .int) 2 t_X7_table := mOK.of f_X7_table (by decide) (fun _ => rfl) (fun g => mCodeOK kk_X7_table) (fun g => mFldL fk_RX7 rfl) (fun g idx v h => by cases h) (fun g idx v h => by cases h) (mCalL (l := l_X7_table) (List.forall_mem_cons.mpr ⟨mSite.S (idx := 190) ok_X7_isHouse (by decide) (by decide) wc_X7_isHouse wk_RX7_190 wt_X7_isHouse wn_RX7 wd_X7_isHouse, List.forall_mem_cons.mpr ⟨mSite.S (idx := 211) ok_X7_scoreBy (by decide) (by decide) wc_X7_scoreBy wk_RX7_211 wt_X7_scoreBy wn_RX7 wd_X7_scoreBy, fun _ h => absurd h List.not_mem_nil⟩⟩) (fun _ => rfl)) run_X7_table

