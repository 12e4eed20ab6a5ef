/-! ===== CLASS TrickHouse: what there is, scores ===== -/
theorem toInt_m1 : (-1 : Int32).toInt = -1 := by decide
/-- who is in turn -/
def turnI (T : aT) : Int32 := if nI T.1.1 = 0 then -1 else if nI T.1.1 = nI 1 then nI T.2.1.1.1 else nI (aTn T.2.2.1.1 T.2.2.1.2.2.2.2 T.2.2.1.2.2.2.2.length)
def tAns (T : aT) (w : Int32) : Int32 :=
  if w = nI 0 then nI T.1.1 else if w = nI 1 then turnI T else if w = nI 2 then nI T.1.2.1 else if w = nI 3 then oI T.2.1.2.2.1 else if w = nI 4 then oI (T.2.1.2.1.map fun q => q.2.1) else if w = nI 5 then oI (T.2.1.2.1.map fun q => q.1)
  else if w = nI 6 then nI T.2.1.1.2.1 else if w = nI 7 then nI (T.2.2.1.2.2.2.2.length / 4) else if w = nI 8 then pWon T.2.2.1 0 else if w = nI 9 then pWon T.2.2.1 1 else if w = nI 10 then nI T.1.2.2.1 else if w = nI 11 then nI T.1.2.2.2 else if w = nI 12 then nI T.2.1.1.2.2 else if w = nI 13 then nI (8 - T.2.2.1.2.2.2.2.length / 4) else -2
theorem tInv.len {T : aT} (h : tInv T) : T.2.2.1.2.2.2.2.length ≤ 32 := by
  rcases h.2.2.2.2.1 with h | h
  · rw [h]
    exact Nat.zero_le _
  · exact h.2.2.1
def pre_X5_standing (q : Nat × aT × Int32) (as : List mV) (M : mM) : Prop := (q.1 = 13 ∨ q.1 = 26) ∧ as = [.inr (some q.1), .inl q.2.2] ∧ RpT q.1 M q.2.1 ∧ q.2.1.2.2.1.2.2.2.2.length ≤ 32
def post_X5_standing (q : Nat × aT × Int32) (_ : List mV) (M : mM) (v : Int32) (M' : mM) : Prop := v = tAns q.2.1 q.2.2 ∧ M' = M
abbrev t_X5_standing : mG → mT := mRi pre_X5_standing post_X5_standing
theorem mo_X5_standing : mMn t_X5_standing := mRi_mono
theorem rv_X5_standing : mHasR yX5_standing 1 t_X5_standing := by
  intro g as M P hT hl
  obtain ⟨q, ⟨h1, h2, -⟩, -⟩ := hT
  refine ⟨_, _, h2, is_X5 g _ ?_⟩
  rcases h1 with h | h <;> rw [h] <;> rfl
def k_X5_standing : List (Nat × mI) := [(0, .iload_n 1, 1, 1, 0, []),
  (1, .tableswitch 176 0 13 #[71, 76, 81, 86, 94, 102, 110, 118, 126, 138, 150, 155, 160, 168], 71, 177, 0, [(nI 0, 72), (nI 1, 77), (nI 2, 82), (nI 3, 87), (nI 4, 95), (nI 5, 103), (nI 6, 111), (nI 7, 119), (nI 8, 127), (nI 9, 139), (nI 10, 151), (nI 11, 156), (nI 12, 161), (nI 13, 169)]),
  (72, .aload_n 0, 1, 0, 0, []),
  (73, .getfield 35, 3, 0, 0, []),
  (76, .ireturn, 1, 0, 0, []),
  (77, .aload_n 0, 1, 0, 0, []),
  (78, .invokevirtual 137, 3, 0, 0, []),
  (81, .ireturn, 1, 0, 0, []),
  (82, .aload_n 0, 1, 0, 0, []),
  (83, .getfield 39, 3, 0, 0, []),
  (86, .ireturn, 1, 0, 0, []),
  (87, .aload_n 0, 1, 0, 0, []),
  (88, .getfield 12, 3, 0, 0, []),
  (91, .getfield 101, 3, 0, 0, []),
  (94, .ireturn, 1, 0, 0, []),
  (95, .aload_n 0, 1, 0, 0, []),
  (96, .getfield 12, 3, 0, 0, []),
  (99, .getfield 104, 3, 0, 0, []),
  (102, .ireturn, 1, 0, 0, []),
  (103, .aload_n 0, 1, 0, 0, []),
  (104, .getfield 12, 3, 0, 0, []),
  (107, .getfield 140, 3, 0, 0, []),
  (110, .ireturn, 1, 0, 0, []),
  (111, .aload_n 0, 1, 0, 0, []),
  (112, .getfield 12, 3, 0, 0, []),
  (115, .getfield 143, 3, 0, 0, []),
  (118, .ireturn, 1, 0, 0, []),
  (119, .aload_n 0, 1, 0, 0, []),
  (120, .getfield 21, 3, 0, 0, []),
  (123, .invokevirtual 146, 3, 0, 0, []),
  (126, .ireturn, 1, 0, 0, []),
  (127, .aload_n 0, 1, 0, 0, []),
  (128, .getfield 21, 3, 0, 0, []),
  (131, .getfield 119, 3, 0, 0, []),
  (134, .iconst 0, 1, 0, nI 0, []),
  (135, .invokestatic 126, 3, 0, 0, []),
  (138, .ireturn, 1, 0, 0, []),
  (139, .aload_n 0, 1, 0, 0, []),
  (140, .getfield 21, 3, 0, 0, []),
  (143, .getfield 119, 3, 0, 0, []),
  (146, .iconst 1, 1, 0, nI 1, []),
  (147, .invokestatic 126, 3, 0, 0, []),
  (150, .ireturn, 1, 0, 0, []),
  (151, .aload_n 0, 1, 0, 0, []),
  (152, .getfield 42, 3, 0, 0, []),
  (155, .ireturn, 1, 0, 0, []),
  (156, .aload_n 0, 1, 0, 0, []),
  (157, .getfield 45, 3, 0, 0, []),
  (160, .ireturn, 1, 0, 0, []),
  (161, .aload_n 0, 1, 0, 0, []),
  (162, .getfield 12, 3, 0, 0, []),
  (165, .getfield 110, 3, 0, 0, []),
  (168, .ireturn, 1, 0, 0, []),
  (169, .aload_n 0, 1, 0, 0, []),
  (170, .getfield 21, 3, 0, 0, []),
  (173, .invokevirtual 58, 3, 0, 0, []),
  (176, .ireturn, 1, 0, 0, []),
  (177, .bipush (-2), 2, 0, -2, []),
  (179, .ireturn, 1, 0, 0, [])]
theorem kk_X5_standing : (k_X5_standing.all fun e => mChk cX5_standing e.1 e.2) = true := by decide +kernel
def l_X5_standing : List (Nat × Nat × (mG → mT)) := [(3 * 137, 0 + 1, t_X5_inTurn), (3 * 146, 0 + 1, t_X2_full), (3 * 126 + 1, 2, t_X7_at), (3 * 58, 0 + 1, t_X2_left)]
def f_X5_standing (g : mG) : mF := (mLk k_X5_standing, mLk fl_RX5, mLk (l_X5_standing.map fun e => (e.1, e.2.1, e.2.2 g)), mLk ([] : List (Nat × mV)), mLk ([] : List (Nat × mV)), some .int)
theorem m_X5_standing (g : mG) : mMono (f_X5_standing g) := mMonoL (g := g) (l := l_X5_standing) (List.forall_mem_cons.mpr ⟨mo_X5_inTurn, List.forall_mem_cons.mpr ⟨mo_X2_full, List.forall_mem_cons.mpr ⟨mo_X7_at, List.forall_mem_cons.mpr ⟨mo_X2_left, fun _ h => absurd h List.not_mem_nil⟩⟩⟩⟩) rfl

theorem v_st_13 (g : mG) (M : mM) (P : mP) (w : Int32)
    (h : (w = (nI 0) → P (some (.inl (M 13 3))) M) ∧ (¬ w = (nI 0) → (w = (nI 1) → (¬ (M 13 3) = 0 → (¬ (M 13 3) = (nI 1) → (P (some (.inl (M 16 8))) M)) ∧ (¬ (¬ (M 13 3) = (nI 1)) → (P (some (.inl (M 14 1))) M))) ∧ (¬ (¬ (M 13 3) = 0) → (P (some (.inl (-1))) M))) ∧ (¬ w = (nI 1) → (w = (nI 2) → P (some (.inl (M 13 4))) M) ∧ (¬ w = (nI 2) → (w = (nI 3) → P (some (.inl (M 14 7))) M) ∧ (¬ w = (nI 3) → (w = (nI 4) → P (some (.inl (M 14 3))) M) ∧ (¬ w = (nI 4) → (w = (nI 5) → P (some (.inl (M 14 2))) M) ∧ (¬ w = (nI 5) → (w = (nI 6) → P (some (.inl (M 14 5))) M) ∧ (¬ w = (nI 6) → (w = (nI 7) → ¬ (nI 4) = 0 ∧ ((P (some (.inl ((M 16 7) / (nI 4)))) M))) ∧ (¬ w = (nI 7) → (w = (nI 8) → P (some (.inl (aAt (M 23) 2 (nI 0)))) M) ∧ (¬ w = (nI 8) → (w = (nI 9) → P (some (.inl (aAt (M 23) 2 (nI 1)))) M) ∧ (¬ w = (nI 9) → (w = (nI 10) → P (some (.inl (M 13 5))) M) ∧ (¬ w = (nI 10) → (w = (nI 11) → P (some (.inl (M 13 6))) M) ∧ (¬ w = (nI 11) → (w = (nI 12) → P (some (.inl (M 14 6))) M) ∧ (¬ w = (nI 12) → (w = (nI 13) → ¬ (nI 4) = 0 ∧ (((P (some (.inl ((nI 8) - ((M 16 7) / (nI 4))))) M)))) ∧ (¬ w = (nI 13) → P (some (.inl (-2))) M))))))))))))))) :
    mRun (mSx g) (f_X5_standing g) P (0, [some (.inr (some 13)), some (.inl w)], [], M) := mRun.vc (m_X5_standing g) [] 8 h

theorem st_run_13 (g : mG) (P : mP) (M : mM) (T : aT) (w : Int32) (hR : RpT 13 M T) (hl : T.2.2.1.2.2.2.2.length ≤ 32) (hP : ∀ v M', v = tAns T w ∧ M' = M → P (some (.inl v)) M') :
    mRun (mSx g) (f_X5_standing g) P (0, [some (.inr (some 13)), some (.inl w)], [], M) := by
  obtain ⟨⟨r3, r4, r5, r6⟩, ⟨b1, b5, b6, b2, b3, -, b4, -⟩, hp, -⟩ := hR
  obtain ⟨p7, p8, -⟩ := hp.1
  dsimp only [Nat.reduceAdd] at b1 b5 b6 b2 b3 b4 p7 p8
  refine v_st_13 g M P w ?_
  rw [r3]
  refine ⟨fun h1 => ?_, fun h1 => ?_⟩
  · refine hP _ _ ⟨?_, rfl⟩
    simp only [tAns, turnI, if_pos h1]
    try first | exact r3 | exact r4 | exact r5 | exact r6 | exact b1 | exact b2 | exact b3 | exact b4 | exact b5 | exact b6 | exact p8 | exact (pWon_at hp (s := 0) (by decide)) | exact (pWon_at hp (s := 1) (by decide)) | (rw [p7, nI_div4 (by omega)]; done) | (rw [p7, nI_div4 (by omega), pk_sub (by omega)]; done)
  · refine ⟨fun h2 => ?_, fun h2 => ?_⟩
    · refine ⟨fun h3 => ?_, fun h3 => ?_⟩
      · refine ⟨fun h4 => ?_, fun h4 => ?_⟩
        · refine hP _ _ ⟨?_, rfl⟩
          simp only [tAns, turnI, if_neg h1, if_pos h2, if_neg h3, if_neg h4]
          try first | exact r3 | exact r4 | exact r5 | exact r6 | exact b1 | exact b2 | exact b3 | exact b4 | exact b5 | exact b6 | exact p8 | exact (pWon_at hp (s := 0) (by decide)) | exact (pWon_at hp (s := 1) (by decide)) | (rw [p7, nI_div4 (by omega)]; done) | (rw [p7, nI_div4 (by omega), pk_sub (by omega)]; done)
        · refine hP _ _ ⟨?_, rfl⟩
          simp only [tAns, turnI, if_neg h1, if_pos h2, if_neg h3, if_pos (Classical.not_not.mp h4)]
          try first | exact r3 | exact r4 | exact r5 | exact r6 | exact b1 | exact b2 | exact b3 | exact b4 | exact b5 | exact b6 | exact p8 | exact (pWon_at hp (s := 0) (by decide)) | exact (pWon_at hp (s := 1) (by decide)) | (rw [p7, nI_div4 (by omega)]; done) | (rw [p7, nI_div4 (by omega), pk_sub (by omega)]; done)
      · refine hP _ _ ⟨?_, rfl⟩
        simp only [tAns, turnI, if_neg h1, if_pos h2, if_pos (Classical.not_not.mp h3)]
        try first | exact r3 | exact r4 | exact r5 | exact r6 | exact b1 | exact b2 | exact b3 | exact b4 | exact b5 | exact b6 | exact p8 | exact (pWon_at hp (s := 0) (by decide)) | exact (pWon_at hp (s := 1) (by decide)) | (rw [p7, nI_div4 (by omega)]; done) | (rw [p7, nI_div4 (by omega), pk_sub (by omega)]; done)
    · refine ⟨fun h5 => ?_, fun h5 => ?_⟩
      · refine hP _ _ ⟨?_, rfl⟩
        simp only [tAns, turnI, if_neg h1, if_neg h2, if_pos h5]
        try first | exact r3 | exact r4 | exact r5 | exact r6 | exact b1 | exact b2 | exact b3 | exact b4 | exact b5 | exact b6 | exact p8 | exact (pWon_at hp (s := 0) (by decide)) | exact (pWon_at hp (s := 1) (by decide)) | (rw [p7, nI_div4 (by omega)]; done) | (rw [p7, nI_div4 (by omega), pk_sub (by omega)]; done)
      · refine ⟨fun h6 => ?_, fun h6 => ?_⟩
        · refine hP _ _ ⟨?_, rfl⟩
          simp only [tAns, turnI, if_neg h1, if_neg h2, if_neg h5, if_pos h6]
          try first | exact r3 | exact r4 | exact r5 | exact r6 | exact b1 | exact b2 | exact b3 | exact b4 | exact b5 | exact b6 | exact p8 | exact (pWon_at hp (s := 0) (by decide)) | exact (pWon_at hp (s := 1) (by decide)) | (rw [p7, nI_div4 (by omega)]; done) | (rw [p7, nI_div4 (by omega), pk_sub (by omega)]; done)
        · refine ⟨fun h7 => ?_, fun h7 => ?_⟩
          · refine hP _ _ ⟨?_, rfl⟩
            simp only [tAns, turnI, if_neg h1, if_neg h2, if_neg h5, if_neg h6, if_pos h7]
            try first | exact r3 | exact r4 | exact r5 | exact r6 | exact b1 | exact b2 | exact b3 | exact b4 | exact b5 | exact b6 | exact p8 | exact (pWon_at hp (s := 0) (by decide)) | exact (pWon_at hp (s := 1) (by decide)) | (rw [p7, nI_div4 (by omega)]; done) | (rw [p7, nI_div4 (by omega), pk_sub (by omega)]; done)
          · refine ⟨fun h8 => ?_, fun h8 => ?_⟩
            · refine hP _ _ ⟨?_, rfl⟩
              simp only [tAns, turnI, if_neg h1, if_neg h2, if_neg h5, if_neg h6, if_neg h7, if_pos h8]
              try first | exact r3 | exact r4 | exact r5 | exact r6 | exact b1 | exact b2 | exact b3 | exact b4 | exact b5 | exact b6 | exact p8 | exact (pWon_at hp (s := 0) (by decide)) | exact (pWon_at hp (s := 1) (by decide)) | (rw [p7, nI_div4 (by omega)]; done) | (rw [p7, nI_div4 (by omega), pk_sub (by omega)]; done)
            · refine ⟨fun h9 => ?_, fun h9 => ?_⟩
              · refine hP _ _ ⟨?_, rfl⟩
                simp only [tAns, turnI, if_neg h1, if_neg h2, if_neg h5, if_neg h6, if_neg h7, if_neg h8, if_pos h9]
                try first | exact r3 | exact r4 | exact r5 | exact r6 | exact b1 | exact b2 | exact b3 | exact b4 | exact b5 | exact b6 | exact p8 | exact (pWon_at hp (s := 0) (by decide)) | exact (pWon_at hp (s := 1) (by decide)) | (rw [p7, nI_div4 (by omega)]; done) | (rw [p7, nI_div4 (by omega), pk_sub (by omega)]; done)
              · refine ⟨fun h10 => ?_, fun h10 => ?_⟩
                · refine ⟨by decide, ?_⟩
                  refine hP _ _ ⟨?_, rfl⟩
                  simp only [tAns, turnI, if_neg h1, if_neg h2, if_neg h5, if_neg h6, if_neg h7, if_neg h8, if_neg h9, if_pos h10]
                  try first | exact r3 | exact r4 | exact r5 | exact r6 | exact b1 | exact b2 | exact b3 | exact b4 | exact b5 | exact b6 | exact p8 | exact (pWon_at hp (s := 0) (by decide)) | exact (pWon_at hp (s := 1) (by decide)) | (rw [p7, nI_div4 (by omega)]; done) | (rw [p7, nI_div4 (by omega), pk_sub (by omega)]; done)
                · refine ⟨fun h11 => ?_, fun h11 => ?_⟩
                  · refine hP _ _ ⟨?_, rfl⟩
                    simp only [tAns, turnI, if_neg h1, if_neg h2, if_neg h5, if_neg h6, if_neg h7, if_neg h8, if_neg h9, if_neg h10, if_pos h11]
                    try first | exact r3 | exact r4 | exact r5 | exact r6 | exact b1 | exact b2 | exact b3 | exact b4 | exact b5 | exact b6 | exact p8 | exact (pWon_at hp (s := 0) (by decide)) | exact (pWon_at hp (s := 1) (by decide)) | (rw [p7, nI_div4 (by omega)]; done) | (rw [p7, nI_div4 (by omega), pk_sub (by omega)]; done)
                  · refine ⟨fun h12 => ?_, fun h12 => ?_⟩
                    · refine hP _ _ ⟨?_, rfl⟩
                      simp only [tAns, turnI, if_neg h1, if_neg h2, if_neg h5, if_neg h6, if_neg h7, if_neg h8, if_neg h9, if_neg h10, if_neg h11, if_pos h12]
                      try first | exact r3 | exact r4 | exact r5 | exact r6 | exact b1 | exact b2 | exact b3 | exact b4 | exact b5 | exact b6 | exact p8 | exact (pWon_at hp (s := 0) (by decide)) | exact (pWon_at hp (s := 1) (by decide)) | (rw [p7, nI_div4 (by omega)]; done) | (rw [p7, nI_div4 (by omega), pk_sub (by omega)]; done)
                    · refine ⟨fun h13 => ?_, fun h13 => ?_⟩
                      · refine hP _ _ ⟨?_, rfl⟩
                        simp only [tAns, turnI, if_neg h1, if_neg h2, if_neg h5, if_neg h6, if_neg h7, if_neg h8, if_neg h9, if_neg h10, if_neg h11, if_neg h12, if_pos h13]
                        try first | exact r3 | exact r4 | exact r5 | exact r6 | exact b1 | exact b2 | exact b3 | exact b4 | exact b5 | exact b6 | exact p8 | exact (pWon_at hp (s := 0) (by decide)) | exact (pWon_at hp (s := 1) (by decide)) | (rw [p7, nI_div4 (by omega)]; done) | (rw [p7, nI_div4 (by omega), pk_sub (by omega)]; done)
                      · refine ⟨fun h14 => ?_, fun h14 => ?_⟩
                        · refine hP _ _ ⟨?_, rfl⟩
                          simp only [tAns, turnI, if_neg h1, if_neg h2, if_neg h5, if_neg h6, if_neg h7, if_neg h8, if_neg h9, if_neg h10, if_neg h11, if_neg h12, if_neg h13, if_pos h14]
                          try first | exact r3 | exact r4 | exact r5 | exact r6 | exact b1 | exact b2 | exact b3 | exact b4 | exact b5 | exact b6 | exact p8 | exact (pWon_at hp (s := 0) (by decide)) | exact (pWon_at hp (s := 1) (by decide)) | (rw [p7, nI_div4 (by omega)]; done) | (rw [p7, nI_div4 (by omega), pk_sub (by omega)]; done)
                        · refine ⟨fun h15 => ?_, fun h15 => ?_⟩
                          · refine hP _ _ ⟨?_, rfl⟩
                            simp only [tAns, turnI, if_neg h1, if_neg h2, if_neg h5, if_neg h6, if_neg h7, if_neg h8, if_neg h9, if_neg h10, if_neg h11, if_neg h12, if_neg h13, if_neg h14, if_pos h15]
                            try first | exact r3 | exact r4 | exact r5 | exact r6 | exact b1 | exact b2 | exact b3 | exact b4 | exact b5 | exact b6 | exact p8 | exact (pWon_at hp (s := 0) (by decide)) | exact (pWon_at hp (s := 1) (by decide)) | (rw [p7, nI_div4 (by omega)]; done) | (rw [p7, nI_div4 (by omega), pk_sub (by omega)]; done)
                          · refine ⟨fun h16 => ?_, fun h16 => ?_⟩
                            · refine ⟨by decide, ?_⟩
                              refine hP _ _ ⟨?_, rfl⟩
                              simp only [tAns, turnI, if_neg h1, if_neg h2, if_neg h5, if_neg h6, if_neg h7, if_neg h8, if_neg h9, if_neg h10, if_neg h11, if_neg h12, if_neg h13, if_neg h14, if_neg h15, if_pos h16]
                              try first | exact r3 | exact r4 | exact r5 | exact r6 | exact b1 | exact b2 | exact b3 | exact b4 | exact b5 | exact b6 | exact p8 | exact (pWon_at hp (s := 0) (by decide)) | exact (pWon_at hp (s := 1) (by decide)) | (rw [p7, nI_div4 (by omega)]; done) | (rw [p7, nI_div4 (by omega), pk_sub (by omega)]; done)
                            · refine hP _ _ ⟨?_, rfl⟩
                              simp only [tAns, turnI, if_neg h1, if_neg h2, if_neg h5, if_neg h6, if_neg h7, if_neg h8, if_neg h9, if_neg h10, if_neg h11, if_neg h12, if_neg h13, if_neg h14, if_neg h15, if_neg h16]
                              try first | exact r3 | exact r4 | exact r5 | exact r6 | exact b1 | exact b2 | exact b3 | exact b4 | exact b5 | exact b6 | exact p8 | exact (pWon_at hp (s := 0) (by decide)) | exact (pWon_at hp (s := 1) (by decide)) | (rw [p7, nI_div4 (by omega)]; done) | (rw [p7, nI_div4 (by omega), pk_sub (by omega)]; done)
theorem v_st_26 (g : mG) (M : mM) (P : mP) (w : Int32)
    (h : (w = (nI 0) → P (some (.inl (M 26 3))) M) ∧ (¬ w = (nI 0) → (w = (nI 1) → (¬ (M 26 3) = 0 → (¬ (M 26 3) = (nI 1) → (P (some (.inl (M 29 8))) M)) ∧ (¬ (¬ (M 26 3) = (nI 1)) → (P (some (.inl (M 27 1))) M))) ∧ (¬ (¬ (M 26 3) = 0) → (P (some (.inl (-1))) M))) ∧ (¬ w = (nI 1) → (w = (nI 2) → P (some (.inl (M 26 4))) M) ∧ (¬ w = (nI 2) → (w = (nI 3) → P (some (.inl (M 27 7))) M) ∧ (¬ w = (nI 3) → (w = (nI 4) → P (some (.inl (M 27 3))) M) ∧ (¬ w = (nI 4) → (w = (nI 5) → P (some (.inl (M 27 2))) M) ∧ (¬ w = (nI 5) → (w = (nI 6) → P (some (.inl (M 27 5))) M) ∧ (¬ w = (nI 6) → (w = (nI 7) → ¬ (nI 4) = 0 ∧ ((P (some (.inl ((M 29 7) / (nI 4)))) M))) ∧ (¬ w = (nI 7) → (w = (nI 8) → P (some (.inl (aAt (M 36) 2 (nI 0)))) M) ∧ (¬ w = (nI 8) → (w = (nI 9) → P (some (.inl (aAt (M 36) 2 (nI 1)))) M) ∧ (¬ w = (nI 9) → (w = (nI 10) → P (some (.inl (M 26 5))) M) ∧ (¬ w = (nI 10) → (w = (nI 11) → P (some (.inl (M 26 6))) M) ∧ (¬ w = (nI 11) → (w = (nI 12) → P (some (.inl (M 27 6))) M) ∧ (¬ w = (nI 12) → (w = (nI 13) → ¬ (nI 4) = 0 ∧ (((P (some (.inl ((nI 8) - ((M 29 7) / (nI 4))))) M)))) ∧ (¬ w = (nI 13) → P (some (.inl (-2))) M))))))))))))))) :
    mRun (mSx g) (f_X5_standing g) P (0, [some (.inr (some 26)), some (.inl w)], [], M) := mRun.vc (m_X5_standing g) [] 8 h

theorem st_run_26 (g : mG) (P : mP) (M : mM) (T : aT) (w : Int32) (hR : RpT 26 M T) (hl : T.2.2.1.2.2.2.2.length ≤ 32) (hP : ∀ v M', v = tAns T w ∧ M' = M → P (some (.inl v)) M') :
    mRun (mSx g) (f_X5_standing g) P (0, [some (.inr (some 26)), some (.inl w)], [], M) := by
  obtain ⟨⟨r3, r4, r5, r6⟩, ⟨b1, b5, b6, b2, b3, -, b4, -⟩, hp, -⟩ := hR
  obtain ⟨p7, p8, -⟩ := hp.1
  dsimp only [Nat.reduceAdd] at b1 b5 b6 b2 b3 b4 p7 p8
  refine v_st_26 g M P w ?_
  rw [r3]
  refine ⟨fun h1 => ?_, fun h1 => ?_⟩
  · refine hP _ _ ⟨?_, rfl⟩
    simp only [tAns, turnI, if_pos h1]
    try first | exact r3 | exact r4 | exact r5 | exact r6 | exact b1 | exact b2 | exact b3 | exact b4 | exact b5 | exact b6 | exact p8 | exact (pWon_at hp (s := 0) (by decide)) | exact (pWon_at hp (s := 1) (by decide)) | (rw [p7, nI_div4 (by omega)]; done) | (rw [p7, nI_div4 (by omega), pk_sub (by omega)]; done)
  · refine ⟨fun h2 => ?_, fun h2 => ?_⟩
    · refine ⟨fun h3 => ?_, fun h3 => ?_⟩
      · refine ⟨fun h4 => ?_, fun h4 => ?_⟩
        · refine hP _ _ ⟨?_, rfl⟩
          simp only [tAns, turnI, if_neg h1, if_pos h2, if_neg h3, if_neg h4]
          try first | exact r3 | exact r4 | exact r5 | exact r6 | exact b1 | exact b2 | exact b3 | exact b4 | exact b5 | exact b6 | exact p8 | exact (pWon_at hp (s := 0) (by decide)) | exact (pWon_at hp (s := 1) (by decide)) | (rw [p7, nI_div4 (by omega)]; done) | (rw [p7, nI_div4 (by omega), pk_sub (by omega)]; done)
        · refine hP _ _ ⟨?_, rfl⟩
          simp only [tAns, turnI, if_neg h1, if_pos h2, if_neg h3, if_pos (Classical.not_not.mp h4)]
          try first | exact r3 | exact r4 | exact r5 | exact r6 | exact b1 | exact b2 | exact b3 | exact b4 | exact b5 | exact b6 | exact p8 | exact (pWon_at hp (s := 0) (by decide)) | exact (pWon_at hp (s := 1) (by decide)) | (rw [p7, nI_div4 (by omega)]; done) | (rw [p7, nI_div4 (by omega), pk_sub (by omega)]; done)
      · refine hP _ _ ⟨?_, rfl⟩
        simp only [tAns, turnI, if_neg h1, if_pos h2, if_pos (Classical.not_not.mp h3)]
        try first | exact r3 | exact r4 | exact r5 | exact r6 | exact b1 | exact b2 | exact b3 | exact b4 | exact b5 | exact b6 | exact p8 | exact (pWon_at hp (s := 0) (by decide)) | exact (pWon_at hp (s := 1) (by decide)) | (rw [p7, nI_div4 (by omega)]; done) | (rw [p7, nI_div4 (by omega), pk_sub (by omega)]; done)
    · refine ⟨fun h5 => ?_, fun h5 => ?_⟩
      · refine hP _ _ ⟨?_, rfl⟩
        simp only [tAns, turnI, if_neg h1, if_neg h2, if_pos h5]
        try first | exact r3 | exact r4 | exact r5 | exact r6 | exact b1 | exact b2 | exact b3 | exact b4 | exact b5 | exact b6 | exact p8 | exact (pWon_at hp (s := 0) (by decide)) | exact (pWon_at hp (s := 1) (by decide)) | (rw [p7, nI_div4 (by omega)]; done) | (rw [p7, nI_div4 (by omega), pk_sub (by omega)]; done)
      · refine ⟨fun h6 => ?_, fun h6 => ?_⟩
        · refine hP _ _ ⟨?_, rfl⟩
          simp only [tAns, turnI, if_neg h1, if_neg h2, if_neg h5, if_pos h6]
          try first | exact r3 | exact r4 | exact r5 | exact r6 | exact b1 | exact b2 | exact b3 | exact b4 | exact b5 | exact b6 | exact p8 | exact (pWon_at hp (s := 0) (by decide)) | exact (pWon_at hp (s := 1) (by decide)) | (rw [p7, nI_div4 (by omega)]; done) | (rw [p7, nI_div4 (by omega), pk_sub (by omega)]; done)
        · refine ⟨fun h7 => ?_, fun h7 => ?_⟩
          · refine hP _ _ ⟨?_, rfl⟩
            simp only [tAns, turnI, if_neg h1, if_neg h2, if_neg h5, if_neg h6, if_pos h7]
            try first | exact r3 | exact r4 | exact r5 | exact r6 | exact b1 | exact b2 | exact b3 | exact b4 | exact b5 | exact b6 | exact p8 | exact (pWon_at hp (s := 0) (by decide)) | exact (pWon_at hp (s := 1) (by decide)) | (rw [p7, nI_div4 (by omega)]; done) | (rw [p7, nI_div4 (by omega), pk_sub (by omega)]; done)
          · refine ⟨fun h8 => ?_, fun h8 => ?_⟩
            · refine hP _ _ ⟨?_, rfl⟩
              simp only [tAns, turnI, if_neg h1, if_neg h2, if_neg h5, if_neg h6, if_neg h7, if_pos h8]
              try first | exact r3 | exact r4 | exact r5 | exact r6 | exact b1 | exact b2 | exact b3 | exact b4 | exact b5 | exact b6 | exact p8 | exact (pWon_at hp (s := 0) (by decide)) | exact (pWon_at hp (s := 1) (by decide)) | (rw [p7, nI_div4 (by omega)]; done) | (rw [p7, nI_div4 (by omega), pk_sub (by omega)]; done)
            · refine ⟨fun h9 => ?_, fun h9 => ?_⟩
              · refine hP _ _ ⟨?_, rfl⟩
                simp only [tAns, turnI, if_neg h1, if_neg h2, if_neg h5, if_neg h6, if_neg h7, if_neg h8, if_pos h9]
                try first | exact r3 | exact r4 | exact r5 | exact r6 | exact b1 | exact b2 | exact b3 | exact b4 | exact b5 | exact b6 | exact p8 | exact (pWon_at hp (s := 0) (by decide)) | exact (pWon_at hp (s := 1) (by decide)) | (rw [p7, nI_div4 (by omega)]; done) | (rw [p7, nI_div4 (by omega), pk_sub (by omega)]; done)
              · refine ⟨fun h10 => ?_, fun h10 => ?_⟩
                · refine ⟨by decide, ?_⟩
                  refine hP _ _ ⟨?_, rfl⟩
                  simp only [tAns, turnI, if_neg h1, if_neg h2, if_neg h5, if_neg h6, if_neg h7, if_neg h8, if_neg h9, if_pos h10]
                  try first | exact r3 | exact r4 | exact r5 | exact r6 | exact b1 | exact b2 | exact b3 | exact b4 | exact b5 | exact b6 | exact p8 | exact (pWon_at hp (s := 0) (by decide)) | exact (pWon_at hp (s := 1) (by decide)) | (rw [p7, nI_div4 (by omega)]; done) | (rw [p7, nI_div4 (by omega), pk_sub (by omega)]; done)
                · refine ⟨fun h11 => ?_, fun h11 => ?_⟩
                  · refine hP _ _ ⟨?_, rfl⟩
                    simp only [tAns, turnI, if_neg h1, if_neg h2, if_neg h5, if_neg h6, if_neg h7, if_neg h8, if_neg h9, if_neg h10, if_pos h11]
                    try first | exact r3 | exact r4 | exact r5 | exact r6 | exact b1 | exact b2 | exact b3 | exact b4 | exact b5 | exact b6 | exact p8 | exact (pWon_at hp (s := 0) (by decide)) | exact (pWon_at hp (s := 1) (by decide)) | (rw [p7, nI_div4 (by omega)]; done) | (rw [p7, nI_div4 (by omega), pk_sub (by omega)]; done)
                  · refine ⟨fun h12 => ?_, fun h12 => ?_⟩
                    · refine hP _ _ ⟨?_, rfl⟩
                      simp only [tAns, turnI, if_neg h1, if_neg h2, if_neg h5, if_neg h6, if_neg h7, if_neg h8, if_neg h9, if_neg h10, if_neg h11, if_pos h12]
                      try first | exact r3 | exact r4 | exact r5 | exact r6 | exact b1 | exact b2 | exact b3 | exact b4 | exact b5 | exact b6 | exact p8 | exact (pWon_at hp (s := 0) (by decide)) | exact (pWon_at hp (s := 1) (by decide)) | (rw [p7, nI_div4 (by omega)]; done) | (rw [p7, nI_div4 (by omega), pk_sub (by omega)]; done)
                    · refine ⟨fun h13 => ?_, fun h13 => ?_⟩
                      · refine hP _ _ ⟨?_, rfl⟩
                        simp only [tAns, turnI, if_neg h1, if_neg h2, if_neg h5, if_neg h6, if_neg h7, if_neg h8, if_neg h9, if_neg h10, if_neg h11, if_neg h12, if_pos h13]
                        try first | exact r3 | exact r4 | exact r5 | exact r6 | exact b1 | exact b2 | exact b3 | exact b4 | exact b5 | exact b6 | exact p8 | exact (pWon_at hp (s := 0) (by decide)) | exact (pWon_at hp (s := 1) (by decide)) | (rw [p7, nI_div4 (by omega)]; done) | (rw [p7, nI_div4 (by omega), pk_sub (by omega)]; done)
                      · refine ⟨fun h14 => ?_, fun h14 => ?_⟩
                        · refine hP _ _ ⟨?_, rfl⟩
                          simp only [tAns, turnI, if_neg h1, if_neg h2, if_neg h5, if_neg h6, if_neg h7, if_neg h8, if_neg h9, if_neg h10, if_neg h11, if_neg h12, if_neg h13, if_pos h14]
                          try first | exact r3 | exact r4 | exact r5 | exact r6 | exact b1 | exact b2 | exact b3 | exact b4 | exact b5 | exact b6 | exact p8 | exact (pWon_at hp (s := 0) (by decide)) | exact (pWon_at hp (s := 1) (by decide)) | (rw [p7, nI_div4 (by omega)]; done) | (rw [p7, nI_div4 (by omega), pk_sub (by omega)]; done)
                        · refine ⟨fun h15 => ?_, fun h15 => ?_⟩
                          · refine hP _ _ ⟨?_, rfl⟩
                            simp only [tAns, turnI, if_neg h1, if_neg h2, if_neg h5, if_neg h6, if_neg h7, if_neg h8, if_neg h9, if_neg h10, if_neg h11, if_neg h12, if_neg h13, if_neg h14, if_pos h15]
                            try first | exact r3 | exact r4 | exact r5 | exact r6 | exact b1 | exact b2 | exact b3 | exact b4 | exact b5 | exact b6 | exact p8 | exact (pWon_at hp (s := 0) (by decide)) | exact (pWon_at hp (s := 1) (by decide)) | (rw [p7, nI_div4 (by omega)]; done) | (rw [p7, nI_div4 (by omega), pk_sub (by omega)]; done)
                          · refine ⟨fun h16 => ?_, fun h16 => ?_⟩
                            · refine ⟨by decide, ?_⟩
                              refine hP _ _ ⟨?_, rfl⟩
                              simp only [tAns, turnI, if_neg h1, if_neg h2, if_neg h5, if_neg h6, if_neg h7, if_neg h8, if_neg h9, if_neg h10, if_neg h11, if_neg h12, if_neg h13, if_neg h14, if_neg h15, if_pos h16]
                              try first | exact r3 | exact r4 | exact r5 | exact r6 | exact b1 | exact b2 | exact b3 | exact b4 | exact b5 | exact b6 | exact p8 | exact (pWon_at hp (s := 0) (by decide)) | exact (pWon_at hp (s := 1) (by decide)) | (rw [p7, nI_div4 (by omega)]; done) | (rw [p7, nI_div4 (by omega), pk_sub (by omega)]; done)
                            · refine hP _ _ ⟨?_, rfl⟩
                              simp only [tAns, turnI, if_neg h1, if_neg h2, if_neg h5, if_neg h6, if_neg h7, if_neg h8, if_neg h9, if_neg h10, if_neg h11, if_neg h12, if_neg h13, if_neg h14, if_neg h15, if_neg h16]
                              try first | exact r3 | exact r4 | exact r5 | exact r6 | exact b1 | exact b2 | exact b3 | exact b4 | exact b5 | exact b6 | exact p8 | exact (pWon_at hp (s := 0) (by decide)) | exact (pWon_at hp (s := 1) (by decide)) | (rw [p7, nI_div4 (by omega)]; done) | (rw [p7, nI_div4 (by omega), pk_sub (by omega)]; done)
theorem run_X5_standing : mRunOf 2 t_X5_standing f_X5_standing := fun g as M P hT => by
  obtain ⟨⟨t, T, w⟩, ⟨h1, rfl, h3, h4⟩, hP⟩ := hT
  refine ⟨Nat.le_of_ble_eq_true rfl, ?_⟩
  dsimp only at h1 h3 h4
  rcases h1 with rfl | rfl
  · exact st_run_13 g P M T w h3 h4 hP
  · exact st_run_26 g P M T w h3 h4 hP
theorem ok_X5_standing : mOK yX5_standing cX5_standing 2 (some .int) 3 t_X5_standing := mOK.of f_X5_standing (by decide) (fun _ => rfl) (fun g => mCodeOK kk_X5_standing) (fun g => mFldL fk_RX5 rfl) (fun g idx v h => by cases h) (fun g idx v h => by cases h) (mCalL (l := l_X5_standing) (List.forall_mem_cons.mpr ⟨mSite.V (idx := 137) ok_X5_inTurn (by decide) (by decide) rv_X5_inTurn wc_X5_inTurn wk_RX5_137 wi_X5_inTurn wl_X5_inTurn wn_RX5 wd_X5_inTurn, List.forall_mem_cons.mpr ⟨mSite.V (idx := 146) ok_X2_full (by decide) (by decide) rv_X2_full wc_X2_full wk_RX5_146 wi_X2_full wl_X2_full wn_RX2 wd_X2_full, List.forall_mem_cons.mpr ⟨mSite.SN (idx := 126) ok_X7_at (by decide) (by decide) wc_X7_at wm_RX5_126 wt_X7_at wn_RX7 wd_X7_at, List.forall_mem_cons.mpr ⟨mSite.V (idx := 58) ok_X2_left (by decide) (by decide) rv_X2_left wc_X2_left wk_RX5_58 wi_X2_left wl_X2_left wn_RX2 wd_X2_left, fun _ h => absurd h List.not_mem_nil⟩⟩⟩⟩) (fun _ => rfl)) run_X5_standing

def F_told (z : aZ) (as : List Int32) : Int32 × aZ := (match as with | [w] => tAns (zT z.2.1) w | _ => 0, z)
abbrev t_X7_told : mG → mT := pub 1 F_told
theorem mo_X7_told : mMn t_X7_told := pub_mono
theorem rv_X7_told : mHasR yX7_told 1 t_X7_told := pub_recv rfl
def k_X7_told : List (Nat × mI) := [(0, .aload_n 0, 1, 0, 0, []),
  (1, .getfield 29, 3, 0, 0, []),
  (4, .iload_n 1, 1, 1, 0, []),
  (5, .invokevirtual 130, 3, 0, 0, []),
  (8, .ireturn, 1, 0, 0, [])]
theorem kk_X7_told : (k_X7_told.all fun e => mChk cX7_told e.1 e.2) = true := by decide +kernel
def l_X7_told : List (Nat × Nat × (mG → mT)) := [(3 * 130, 1 + 1, t_X5_standing)]
def f_X7_told (g : mG) : mF := (mLk k_X7_told, mLk fl_RX7, mLk (l_X7_told.map fun e => (e.1, e.2.1, e.2.2 g)), mLk ([] : List (Nat × mV)), mLk ([] : List (Nat × mV)), some .int)
theorem m_X7_told (g : mG) : mMono (f_X7_told g) := mMonoL (g := g) (l := l_X7_told) (List.forall_mem_cons.mpr ⟨mo_X5_standing, fun _ h => absurd h List.not_mem_nil⟩) rfl

theorem v_told (g : mG) (M : mM) (P : mP) (x : Int32)
    (h : ∃ x1 : Nat × aT × Int32, pre_X5_standing x1 [.inr (some 13), .inl x] M ∧ ∀ (r3 : Int32) (M2 : mM), post_X5_standing x1 [.inr (some 13), .inl x] M r3 M2 → (P (some (.inl r3)) M2)) :
    mRun (mSx g) (f_X7_told g) P (0, [some (.inr (some 0)), some (.inl x)], [], M) := mRun.vc (m_X7_told g) [] 5 h

theorem run_X7_told : mRunOf 2 t_X7_told f_X7_told := runC1 (by decide) (fun g M P z x hR hI hP => by
  refine v_told g M P x ?_
  refine ⟨(13, zT z.2.1, x), ⟨Or.inl rfl, rfl, hR.2.2.2.1, hI.T.len⟩, fun r3 M2 hr => ?_⟩
  obtain ⟨rfl, rfl⟩ := hr
  exact hP _ _ rfl hR FrC.refl)

theorem ok_X7_told : mOK yX7_told cX7_told 2 (some .int) 4 t_X7_told := mOK.of f_X7_told (by decide) (fun _ => rfl) (fun g => mCodeOK kk_X7_told) (fun g => mFldL fk_RX7 rfl) (fun g idx v h => by cases h) (fun g idx v h => by cases h) (mCalL (l := l_X7_told) (List.forall_mem_cons.mpr ⟨mSite.V (idx := 130) ok_X5_standing (by decide) (by decide) rv_X5_standing wc_X5_standing wk_RX7_130 wi_X5_standing wl_X5_standing wn_RX5 wd_X5_standing, fun _ h => absurd h List.not_mem_nil⟩) (fun _ => rfl)) run_X7_told

def F_log (z : aZ) (as : List Int32) : Int32 × aZ := (match as with
  | [i, w] => match ix w 4 with
    | none => -2
    | some k => match ix i z.2.1.length with
      | none => -12
      | some j => if k = 0 then nI (eA z.2.1 j).1.1 else if k = 1 then (eA z.2.1 j).1.2.1 else if k = 2 then (eA z.2.1 j).1.2.2 else (eA z.2.1 j).2
  | _ => 0, z)
abbrev t_X7_log : mG → mT := pub 2 F_log
theorem mo_X7_log : mMn t_X7_log := pub_mono
theorem rv_X7_log : mHasR yX7_log 2 t_X7_log := pub_recv rfl
def k_X7_log : List (Nat × mI) := [(0, .iload_n 2, 1, 2, 0, []),
  (1, .ifCond .lt 8, 3, 9, 0, []),
  (4, .iload_n 2, 1, 2, 0, []),
  (5, .iconst 3, 1, 0, nI 3, []),
  (6, .if_icmp .le 6, 3, 12, 0, []),
  (9, .bipush (-2), 2, 0, -2, []),
  (11, .ireturn, 1, 0, 0, []),
  (12, .iload_n 1, 1, 1, 0, []),
  (13, .ifCond .lt 14, 3, 27, 0, []),
  (16, .iload_n 1, 1, 1, 0, []),
  (17, .aload_n 0, 1, 0, 0, []),
  (18, .getfield 19, 3, 0, 0, []),
  (21, .getfield 96, 3, 0, 0, []),
  (24, .if_icmp .lt 6, 3, 30, 0, []),
  (27, .bipush (-12), 2, 0, -12, []),
  (29, .ireturn, 1, 0, 0, []),
  (30, .iload_n 2, 1, 2, 0, []),
  (31, .tableswitch 61 0 2 #[25, 37, 49], 25, 92, 0, [(nI 0, 56), (nI 1, 68), (nI 2, 80)]),
  (56, .aload_n 0, 1, 0, 0, []),
  (57, .getfield 19, 3, 0, 0, []),
  (60, .getfield 103, 3, 0, 0, []),
  (63, .iload_n 1, 1, 1, 0, []),
  (64, .invokestatic 107, 3, 0, 0, []),
  (67, .ireturn, 1, 0, 0, []),
  (68, .aload_n 0, 1, 0, 0, []),
  (69, .getfield 19, 3, 0, 0, []),
  (72, .getfield 111, 3, 0, 0, []),
  (75, .iload_n 1, 1, 1, 0, []),
  (76, .invokestatic 107, 3, 0, 0, []),
  (79, .ireturn, 1, 0, 0, []),
  (80, .aload_n 0, 1, 0, 0, []),
  (81, .getfield 19, 3, 0, 0, []),
  (84, .getfield 114, 3, 0, 0, []),
  (87, .iload_n 1, 1, 1, 0, []),
  (88, .invokestatic 107, 3, 0, 0, []),
  (91, .ireturn, 1, 0, 0, []),
  (92, .aload_n 0, 1, 0, 0, []),
  (93, .getfield 19, 3, 0, 0, []),
  (96, .getfield 117, 3, 0, 0, []),
  (99, .iload_n 1, 1, 1, 0, []),
  (100, .invokestatic 107, 3, 0, 0, []),
  (103, .ireturn, 1, 0, 0, [])]
theorem kk_X7_log : (k_X7_log.all fun e => mChk cX7_log e.1 e.2) = true := by decide +kernel
def l_X7_log : List (Nat × Nat × (mG → mT)) := [(3 * 107 + 1, 2, t_X7_at)]
def f_X7_log (g : mG) : mF := (mLk k_X7_log, mLk fl_RX7, mLk (l_X7_log.map fun e => (e.1, e.2.1, e.2.2 g)), mLk ([] : List (Nat × mV)), mLk ([] : List (Nat × mV)), some .int)
theorem m_X7_log (g : mG) : mMono (f_X7_log g) := mMonoL (g := g) (l := l_X7_log) (List.forall_mem_cons.mpr ⟨mo_X7_at, fun _ h => absurd h List.not_mem_nil⟩) rfl

theorem v_log (g : mG) (M : mM) (P : mP) (x y : Int32)
    (h : (y < 0 → P (some (.inl (-2))) M) ∧ (¬ (y < 0) → (y ≤ (nI 3) → (x < 0 → P (some (.inl (-12))) M) ∧ (¬ (x < 0) → (x < (M 3 4) → (y = (nI 0) → P (some (.inl (aAt (M 4) 90 x))) M) ∧ (¬ y = (nI 0) → (y = (nI 1) → P (some (.inl (aAt (M 5) 90 x))) M) ∧ (¬ y = (nI 1) → (y = (nI 2) → P (some (.inl (aAt (M 6) 90 x))) M) ∧ (¬ y = (nI 2) → P (some (.inl (aAt (M 7) 90 x))) M)))) ∧ (¬ (x < (M 3 4)) → P (some (.inl (-12))) M))) ∧ (¬ (y ≤ (nI 3)) → P (some (.inl (-2))) M))) :
    mRun (mSx g) (f_X7_log g) P (0, [some (.inr (some 0)), some (.inl x), some (.inl y)], [], M) := mRun.vc (m_X7_log g) [] 20 h

set_option maxHeartbeats 1000000 in
theorem run_X7_log : mRunOf 3 t_X7_log f_X7_log := runC2 (by decide) (fun g M P z x y hR hI hP => by
  obtain ⟨l1, l2⟩ := hR.2.1
  have hlen := hI.2.1.1
  have hQ : ∀ v, v = (F_log z [x, y]).1 → P (some (.inl v)) M := fun v e => hP v M e hR FrC.refl
  refine v_log g M P x y ?_
  rw [l1]
  rcases ix_cs y (n := 4) (by decide) with ⟨hw, e1⟩ | ⟨k, hk, rfl, e1⟩
  · have hc : F_log z [x, y] = (-2, z) := by simp only [F_log, e1]
    rw [hc] at hQ
    refine ⟨fun _ => hQ _ rfl, fun h1 => ⟨fun h2 => ?_, fun _ => hQ _ rfl⟩⟩
    exfalso
    simp (disch := omega) only [fa_lt, fa_le, nI_toInt, Int32.toInt_zero] at hw h1 h2
    omega
  · refine ⟨fun h => absurd h (nI_pos (by omega)), fun _ => ⟨fun _ => ?_, fun h => absurd (nI_le (by omega) (by decide)) h⟩⟩
    rcases ix_cs x (n := z.2.1.length) (by omega) with ⟨hi, e2⟩ | ⟨j, hj, rfl, e2⟩
    · have hc : F_log z [x, nI k] = (-12, z) := by simp only [F_log, e1, e2]
      rw [hc] at hQ
      refine ⟨fun _ => hQ _ rfl, fun h1 => ⟨fun h2 => ?_, fun _ => hQ _ rfl⟩⟩
      exact absurd h2 (Int32.not_lt.mpr (hi.resolve_left h1))
    · obtain ⟨a1, a2, a3, a4⟩ := l2 j hj
      have hc : (F_log z [nI j, nI k]).1 = if k = 0 then nI (eA z.2.1 j).1.1 else if k = 1 then (eA z.2.1 j).1.2.1 else if k = 2 then (eA z.2.1 j).1.2.2 else (eA z.2.1 j).2 := by simp only [F_log, e1, e2]
      rw [hc] at hQ
      refine ⟨fun h => absurd h (nI_pos (by omega)), fun _ => ⟨fun _ => ?_, fun h => absurd (nI_lt hj (by omega)) h⟩⟩
      have q : ∀ (f : Nat → Int32), aAt f 90 (nI j) = f j := fun f => aAt_in (by omega) (by decide)
      rw [q, q, q, q]
      rcases (by omega : k = 0 ∨ k = 1 ∨ k = 2 ∨ k = 3) with rfl | rfl | rfl | rfl
      · exact ⟨fun _ => hQ _ a1, fun h => absurd rfl h⟩
      · exact ⟨fun h => absurd h (by decide), fun _ => ⟨fun _ => hQ _ a2, fun h => absurd rfl h⟩⟩
      · exact ⟨fun h => absurd h (by decide), fun _ => ⟨fun h => absurd h (by decide), fun _ => ⟨fun _ => hQ _ a3, fun h => absurd rfl h⟩⟩⟩
      · exact ⟨fun h => absurd h (by decide), fun _ => ⟨fun h => absurd h (by decide), fun _ => ⟨fun h => absurd h (by decide), fun _ => hQ _ a4⟩⟩⟩)

theorem ok_X7_log : mOK yX7_log cX7_log 3 (some .int) 2 t_X7_log := mOK.of f_X7_log (by decide) (fun _ => rfl) (fun g => mCodeOK kk_X7_log) (fun g => mFldL fk_RX7 rfl) (fun g idx v h => by cases h) (fun g idx v h => by cases h) (mCalL (l := l_X7_log) (List.forall_mem_cons.mpr ⟨mSite.S (idx := 107) ok_X7_at (by decide) (by decide) wc_X7_at wk_RX7_107 wt_X7_at wn_RX7 wd_X7_at, fun _ h => absurd h List.not_mem_nil⟩) (fun _ => rfl)) run_X7_log

