/-! ===== THE REFERENCE: the next token ===== -/
def NXF (M0 M : mM) : Prop := (∀ c, c ≠ 50 → M c = M0 c) ∧ ∀ k, ¬ (34 ≤ k ∧ k ≤ 37) → k ≠ 40 → M 50 k = M0 50 k
theorem NXF.refl {M : mM} : NXF M M := ⟨fun _ _ => rfl, fun _ _ _ => rfl⟩
theorem NXF.trans {M M1 M2 : mM} (h : NXF M M1) (k : NXF M1 M2) : NXF M M2 := ⟨fun c hc => (k.1 c hc).trans (h.1 c hc), fun c h1 h2 => (k.2 c h1 h2).trans (h.2 c h1 h2)⟩
theorem NXF.up {M0 M : mM} {k : Nat} {v : Int32} (h : NXF M0 M) (hk : (34 ≤ k ∧ k ≤ 37) ∨ k = 40) : NXF M0 (mW1 M 50 k v) := ⟨fun c hc => (mW1_c hc).trans (h.1 c hc), fun j h1 h2 => (mW1_k (by omega)).trans (h.2 j h1 h2)⟩
theorem NXF.tp {M0 M : mM} {t : List Int32} (h : NXF M0 M) (k : RmTp M0 t) : RmTp M t := RmTp_fr k (h.2 33 (by decide) (by decide)) (h.1 77 (by decide))
theorem fIn_L (c : Int32) : fIn c (nI 97) (nI 122) = mb (cL c = true) := by
  unfold fIn cL
  refine mb_congr ?_
  rw [Bool.and_eq_true, decide_eq_true_eq, decide_eq_true_eq]
theorem fIn_D (c : Int32) : fIn c (nI 48) (nI 57) = mb (cD c = true) := by
  unfold fIn cD
  refine mb_congr ?_
  rw [Bool.and_eq_true, decide_eq_true_eq, decide_eq_true_eq]
theorem cB_t {c : Int32} : cB c = true ↔ c = nI 32 ∨ c = nI 10 := by
  unfold cB
  rw [Bool.or_eq_true, decide_eq_true_eq, decide_eq_true_eq]
theorem bA_lt {t : List Int32} {i : Nat} {f : Int32 → Bool} (hf : f (-1) = false) (h : f (bA t i) = true) : i < t.length := by
  rcases Nat.lt_or_ge i t.length with q | q
  · exact q
  · rw [bA_end q, hf] at h
    cases h
/-- the token at p: its sort, its value, where it ends -/
def lx (t : List Int32) (p : Nat) : Option (Nat × Nat × Nat) :=
  if skip cB t p = t.length then some (0, 0, t.length)
  else if cL (bA t (skip cB t p)) = true then (match lSu t (skip cB t p) (skip cL t (skip cB t p)) with
    | some s => some (2, s, skip cL t (skip cB t p))
    | none => (lWd t (skip cB t p) (skip cL t (skip cB t p))).map fun w => (1, w, skip cL t (skip cB t p)))
  else if cD (bA t (skip cB t p)) = true then (if skip cD t (skip cB t p) - skip cB t p ≤ 6 then some (3, dV t (skip cB t p) (skip cD t (skip cB t p) - skip cB t p), skip cD t (skip cB t p)) else none)
  else none
def LX (M : mM) (t : List Int32) (p : Nat) : Prop := M 50 35 = nI (skip cB t p) ∧ match lx t p with
  | none => M 50 40 = 1
  | some q => M 50 40 = 0 ∧ M 50 36 = nI q.1 ∧ (q.1 ≠ 0 → M 50 37 = nI q.2.1) ∧ M 50 34 = nI q.2.2 ∧ q.2.2 ≤ t.length
def pre_X8_next (q : List Int32 × Nat) (as : List mV) (M : mM) : Prop := as = [.inr (some 50)] ∧ RmTp M q.1 ∧ q.1.length ≤ 40 ∧ (∀ b ∈ q.1, 0 ≤ b.toInt) ∧ M 50 40 = 0 ∧ M 50 34 = nI q.2 ∧ q.2 ≤ q.1.length
def post_X8_next (q : List Int32 × Nat) (_ : List mV) (M : mM) (M' : mM) : Prop := LX M' q.1 q.2 ∧ NXF M M'
abbrev t_X8_next : mG → mT := mRv pre_X8_next post_X8_next
theorem mo_X8_next : mMn t_X8_next := mRv_mono
theorem rv_X8_next : mHasR yX8_next 0 t_X8_next := by
  intro g as M P hT hl
  obtain ⟨q, ⟨h2, -⟩, -⟩ := hT
  exact ⟨_, _, h2, is_X8 g _ rfl⟩
def k_X8_next : List (Nat × mI) := [(0, .aload_n 0, 1, 0, 0, []),
  (1, .getfield 277, 3, 0, 0, []),
  (4, .ifCond .eq 4, 3, 8, 0, []),
  (7, .return_, 1, 0, 0, []),
  (8, .aload_n 0, 1, 0, 0, []),
  (9, .aload_n 0, 1, 0, 0, []),
  (10, .getfield 230, 3, 0, 0, []),
  (13, .invokevirtual 240, 3, 0, 0, []),
  (16, .bipush 32, 2, 0, nI 32, []),
  (18, .if_icmp .eq 16, 3, 34, 0, []),
  (21, .aload_n 0, 1, 0, 0, []),
  (22, .aload_n 0, 1, 0, 0, []),
  (23, .getfield 230, 3, 0, 0, []),
  (26, .invokevirtual 240, 3, 0, 0, []),
  (29, .bipush 10, 2, 0, nI 10, []),
  (31, .if_icmp .ne 16, 3, 47, 0, []),
  (34, .aload_n 0, 1, 0, 0, []),
  (35, .dup, 1, 0, 0, []),
  (36, .getfield 230, 3, 0, 0, []),
  (39, .iconst 1, 1, 0, nI 1, []),
  (40, .iadd, 1, 0, 0, []),
  (41, .putfield 230, 3, 0, 0, []),
  (44, .goto (-36), 3, 8, 0, []),
  (47, .aload_n 0, 1, 0, 0, []),
  (48, .aload_n 0, 1, 0, 0, []),
  (49, .getfield 230, 3, 0, 0, []),
  (52, .putfield 233, 3, 0, 0, []),
  (55, .aload_n 0, 1, 0, 0, []),
  (56, .aload_n 0, 1, 0, 0, []),
  (57, .getfield 230, 3, 0, 0, []),
  (60, .invokevirtual 240, 3, 0, 0, []),
  (63, .istore_n 1, 1, 1, 0, []),
  (64, .aload_n 0, 1, 0, 0, []),
  (65, .iconst 0, 1, 0, nI 0, []),
  (66, .putfield 280, 3, 0, 0, []),
  (69, .iload_n 1, 1, 1, 0, []),
  (70, .iconst (-1), 1, 0, -1, []),
  (71, .if_icmp .ne 4, 3, 75, 0, []),
  (74, .return_, 1, 0, 0, []),
  (75, .iload_n 1, 1, 1, 0, []),
  (76, .bipush 97, 2, 0, nI 97, []),
  (78, .bipush 122, 2, 0, nI 122, []),
  (80, .invokestatic 214, 3, 0, 0, []),
  (83, .ifCond .eq 94, 3, 177, 0, []),
  (86, .aload_n 0, 1, 0, 0, []),
  (87, .aload_n 0, 1, 0, 0, []),
  (88, .getfield 230, 3, 0, 0, []),
  (91, .invokevirtual 240, 3, 0, 0, []),
  (94, .bipush 97, 2, 0, nI 97, []),
  (96, .bipush 122, 2, 0, nI 122, []),
  (98, .invokestatic 214, 3, 0, 0, []),
  (101, .ifCond .eq 16, 3, 117, 0, []),
  (104, .aload_n 0, 1, 0, 0, []),
  (105, .dup, 1, 0, 0, []),
  (106, .getfield 230, 3, 0, 0, []),
  (109, .iconst 1, 1, 0, nI 1, []),
  (110, .iadd, 1, 0, 0, []),
  (111, .putfield 230, 3, 0, 0, []),
  (114, .goto (-28), 3, 86, 0, []),
  (117, .aload_n 0, 1, 0, 0, []),
  (118, .aload_n 0, 1, 0, 0, []),
  (119, .invokevirtual 283, 3, 0, 0, []),
  (122, .iconst (-1), 1, 0, -1, []),
  (123, .if_icmp .eq 7, 3, 130, 0, []),
  (126, .iconst 2, 1, 0, nI 2, []),
  (127, .goto 4, 3, 131, 0, []),
  (130, .iconst 1, 1, 0, nI 1, []),
  (131, .putfield 280, 3, 0, 0, []),
  (134, .aload_n 0, 1, 0, 0, []),
  (135, .aload_n 0, 1, 0, 0, []),
  (136, .getfield 280, 3, 0, 0, []),
  (139, .iconst 2, 1, 0, nI 2, []),
  (140, .if_icmp .ne 10, 3, 150, 0, []),
  (143, .aload_n 0, 1, 0, 0, []),
  (144, .invokevirtual 283, 3, 0, 0, []),
  (147, .goto 7, 3, 154, 0, []),
  (150, .aload_n 0, 1, 0, 0, []),
  (151, .invokevirtual 286, 3, 0, 0, []),
  (154, .putfield 289, 3, 0, 0, []),
  (157, .aload_n 0, 1, 0, 0, []),
  (158, .aload_n 0, 1, 0, 0, []),
  (159, .getfield 289, 3, 0, 0, []),
  (162, .iconst (-1), 1, 0, -1, []),
  (163, .if_icmp .ne 7, 3, 170, 0, []),
  (166, .iconst 1, 1, 0, nI 1, []),
  (167, .goto 4, 3, 171, 0, []),
  (170, .iconst 0, 1, 0, nI 0, []),
  (171, .putfield 277, 3, 0, 0, []),
  (174, .goto 123, 3, 297, 0, []),
  (177, .iload_n 1, 1, 1, 0, []),
  (178, .bipush 48, 2, 0, nI 48, []),
  (180, .bipush 57, 2, 0, nI 57, []),
  (182, .invokestatic 214, 3, 0, 0, []),
  (185, .ifCond .eq 107, 3, 292, 0, []),
  (188, .aload_n 0, 1, 0, 0, []),
  (189, .iconst 3, 1, 0, nI 3, []),
  (190, .putfield 280, 3, 0, 0, []),
  (193, .aload_n 0, 1, 0, 0, []),
  (194, .iconst 0, 1, 0, nI 0, []),
  (195, .putfield 289, 3, 0, 0, []),
  (198, .aload_n 0, 1, 0, 0, []),
  (199, .aload_n 0, 1, 0, 0, []),
  (200, .getfield 230, 3, 0, 0, []),
  (203, .invokevirtual 240, 3, 0, 0, []),
  (206, .bipush 48, 2, 0, nI 48, []),
  (208, .bipush 57, 2, 0, nI 57, []),
  (210, .invokestatic 214, 3, 0, 0, []),
  (213, .ifCond .eq 53, 3, 266, 0, []),
  (216, .aload_n 0, 1, 0, 0, []),
  (217, .getfield 230, 3, 0, 0, []),
  (220, .aload_n 0, 1, 0, 0, []),
  (221, .getfield 233, 3, 0, 0, []),
  (224, .isub, 1, 0, 0, []),
  (225, .bipush 6, 2, 0, nI 6, []),
  (227, .if_icmp .ge 26, 3, 253, 0, []),
  (230, .aload_n 0, 1, 0, 0, []),
  (231, .bipush 10, 2, 0, nI 10, []),
  (233, .aload_n 0, 1, 0, 0, []),
  (234, .getfield 289, 3, 0, 0, []),
  (237, .imul, 1, 0, 0, []),
  (238, .aload_n 0, 1, 0, 0, []),
  (239, .aload_n 0, 1, 0, 0, []),
  (240, .getfield 230, 3, 0, 0, []),
  (243, .invokevirtual 240, 3, 0, 0, []),
  (246, .iadd, 1, 0, 0, []),
  (247, .bipush 48, 2, 0, nI 48, []),
  (249, .isub, 1, 0, 0, []),
  (250, .putfield 289, 3, 0, 0, []),
  (253, .aload_n 0, 1, 0, 0, []),
  (254, .dup, 1, 0, 0, []),
  (255, .getfield 230, 3, 0, 0, []),
  (258, .iconst 1, 1, 0, nI 1, []),
  (259, .iadd, 1, 0, 0, []),
  (260, .putfield 230, 3, 0, 0, []),
  (263, .goto (-65), 3, 198, 0, []),
  (266, .aload_n 0, 1, 0, 0, []),
  (267, .aload_n 0, 1, 0, 0, []),
  (268, .getfield 230, 3, 0, 0, []),
  (271, .aload_n 0, 1, 0, 0, []),
  (272, .getfield 233, 3, 0, 0, []),
  (275, .isub, 1, 0, 0, []),
  (276, .bipush 6, 2, 0, nI 6, []),
  (278, .if_icmp .le 7, 3, 285, 0, []),
  (281, .iconst 1, 1, 0, nI 1, []),
  (282, .goto 4, 3, 286, 0, []),
  (285, .iconst 0, 1, 0, nI 0, []),
  (286, .putfield 277, 3, 0, 0, []),
  (289, .goto 8, 3, 297, 0, []),
  (292, .aload_n 0, 1, 0, 0, []),
  (293, .iconst 1, 1, 0, nI 1, []),
  (294, .putfield 277, 3, 0, 0, []),
  (297, .return_, 1, 0, 0, [])]
theorem kk_X8_next : (k_X8_next.all fun e => mChk cX8_next e.1 e.2) = true := by decide +kernel
def l_X8_next : List (Nat × Nat × (mG → mT)) := [(3 * 240, 1 + 1, t_X8_byteAt), (3 * 214 + 1, 3, t_X8_in), (3 * 283, 0 + 1, t_X8_suitRead), (3 * 286, 0 + 1, t_X8_wordRead)]
def f_X8_next (g : mG) : mF := (mLk k_X8_next, mLk fl_RX8, mLk (l_X8_next.map fun e => (e.1, e.2.1, e.2.2 g)), mLk ([] : List (Nat × mV)), mLk ([] : List (Nat × mV)), none)
theorem m_X8_next (g : mG) : mMono (f_X8_next g) := mMonoL (g := g) (l := l_X8_next) (List.forall_mem_cons.mpr ⟨mo_X8_byteAt, List.forall_mem_cons.mpr ⟨mo_X8_in, List.forall_mem_cons.mpr ⟨mo_X8_suitRead, List.forall_mem_cons.mpr ⟨mo_X8_wordRead, fun _ h => absurd h List.not_mem_nil⟩⟩⟩⟩) rfl

theorem w_nx_0 (g : mG) (M : mM) (P : mP) 
    (h : ((M 50 40) = 0 → mRun (mSx g) (f_X8_next g) P (8, [some (.inr (some 50)), none], [], M)) ∧ (¬ ((M 50 40) = 0) → P none M)) :
    mRun (mSx g) (f_X8_next g) P (0, [some (.inr (some 50)), none], [], M) := mRun.vc (m_X8_next g) [8] 4 h

theorem w_nx_8 (g : mG) (M : mM) (P : mP) 
    (h : ∃ x1 : List Int32 × Nat, pre_X8_byteAt x1 [.inr (some 50), .inl (M 50 34)] M ∧ ∀ (r3 : Int32) (M2 : mM), post_X8_byteAt x1 [.inr (some 50), .inl (M 50 34)] M r3 M2 → ((r3 = (nI 32) → let M5 : mM := mW1 M2 50 34 ((M2 50 34) + (nI 1)); mRun (mSx g) (f_X8_next g) P (8, [some (.inr (some 50)), none], [], M5)) ∧ (¬ (r3 = (nI 32)) → ∃ x6 : List Int32 × Nat, pre_X8_byteAt x6 [.inr (some 50), .inl (M2 50 34)] M2 ∧ ∀ (r8 : Int32) (M7 : mM), post_X8_byteAt x6 [.inr (some 50), .inl (M2 50 34)] M2 r8 M7 → ((¬ r8 = (nI 10) → mRun (mSx g) (f_X8_next g) P (47, [some (.inr (some 50)), none], [], M7)) ∧ (¬ (¬ r8 = (nI 10)) → let M10 : mM := mW1 M7 50 34 ((M7 50 34) + (nI 1)); mRun (mSx g) (f_X8_next g) P (8, [some (.inr (some 50)), none], [], M10)))))) :
    mRun (mSx g) (f_X8_next g) P (8, [some (.inr (some 50)), none], [], M) := mRun.vc (m_X8_next g) [8, 47] 20 h

theorem w_nx_47 (g : mG) (M : mM) (P : mP) 
    (h : let M1 : mM := mW1 M 50 35 (M 50 34); ∃ x2 : List Int32 × Nat, pre_X8_byteAt x2 [.inr (some 50), .inl (M 50 34)] M1 ∧ ∀ (r4 : Int32) (M3 : mM), post_X8_byteAt x2 [.inr (some 50), .inl (M 50 34)] M1 r4 M3 → (let M5 : mM := mW1 M3 50 36 (nI 0); (¬ r4 = (-1) → ((fIn r4 (nI 97) (nI 122)) = 0 → ((fIn r4 (nI 48) (nI 57)) = 0 → mRun (mSx g) (f_X8_next g) P (292, [some (.inr (some 50)), some (.inl r4)], [], M5)) ∧ (¬ ((fIn r4 (nI 48) (nI 57)) = 0) → mRun (mSx g) (f_X8_next g) P (188, [some (.inr (some 50)), some (.inl r4)], [], M5))) ∧ (¬ ((fIn r4 (nI 97) (nI 122)) = 0) → mRun (mSx g) (f_X8_next g) P (86, [some (.inr (some 50)), some (.inl r4)], [], M5))) ∧ (¬ (¬ r4 = (-1)) → P none M5))) :
    mRun (mSx g) (f_X8_next g) P (47, [some (.inr (some 50)), none], [], M) := mRun.vc (m_X8_next g) [86, 188, 292] 26 h

theorem w_nx_86 (g : mG) (M : mM) (P : mP) (c : Int32)
    (h : ∃ x1 : List Int32 × Nat, pre_X8_byteAt x1 [.inr (some 50), .inl (M 50 34)] M ∧ ∀ (r3 : Int32) (M2 : mM), post_X8_byteAt x1 [.inr (some 50), .inl (M 50 34)] M r3 M2 → (((fIn r3 (nI 97) (nI 122)) = 0 → mRun (mSx g) (f_X8_next g) P (117, [some (.inr (some 50)), some (.inl c)], [], M2)) ∧ (¬ ((fIn r3 (nI 97) (nI 122)) = 0) → let M5 : mM := mW1 M2 50 34 ((M2 50 34) + (nI 1)); mRun (mSx g) (f_X8_next g) P (86, [some (.inr (some 50)), some (.inl c)], [], M5)))) :
    mRun (mSx g) (f_X8_next g) P (86, [some (.inr (some 50)), some (.inl c)], [], M) := mRun.vc (m_X8_next g) [86, 117] 16 h

theorem w_nx_117 (g : mG) (M : mM) (P : mP) (c : Int32)
    (h : ∃ x1 : List Int32 × Nat × Nat, pre_X8_suitRead x1 [.inr (some 50)] M ∧ ∀ (r3 : Int32) (M2 : mM), post_X8_suitRead x1 [.inr (some 50)] M r3 M2 → ((r3 = (-1) → let M5 : mM := mW1 M2 50 36 (nI 1); (¬ (nI 1) = (nI 2) → ∃ x7 : List Int32 × Nat × Nat, pre_X8_wordRead x7 [.inr (some 50)] M5 ∧ ∀ (r9 : Int32) (M8 : mM), post_X8_wordRead x7 [.inr (some 50)] M5 r9 M8 → (let M10 : mM := mW1 M8 50 37 r9; (¬ r9 = (-1) → ((nI 0) = 0 ∨ (nI 0) = 1) ∧ (let M12 : mM := mW1 M10 50 40 (nI 0); P none M12)) ∧ (¬ (¬ r9 = (-1)) → ((nI 1) = 0 ∨ (nI 1) = 1) ∧ (let M13 : mM := mW1 M10 50 40 (nI 1); P none M13)))) ∧ (¬ (¬ (nI 1) = (nI 2)) → ∃ x14 : List Int32 × Nat × Nat, pre_X8_suitRead x14 [.inr (some 50)] M5 ∧ ∀ (r16 : Int32) (M15 : mM), post_X8_suitRead x14 [.inr (some 50)] M5 r16 M15 → (let M17 : mM := mW1 M15 50 37 r16; (¬ r16 = (-1) → ((nI 0) = 0 ∨ (nI 0) = 1) ∧ (let M19 : mM := mW1 M17 50 40 (nI 0); P none M19)) ∧ (¬ (¬ r16 = (-1)) → ((nI 1) = 0 ∨ (nI 1) = 1) ∧ (let M20 : mM := mW1 M17 50 40 (nI 1); P none M20))))) ∧ (¬ (r3 = (-1)) → let M21 : mM := mW1 M2 50 36 (nI 2); (¬ (nI 2) = (nI 2) → ∃ x23 : List Int32 × Nat × Nat, pre_X8_wordRead x23 [.inr (some 50)] M21 ∧ ∀ (r25 : Int32) (M24 : mM), post_X8_wordRead x23 [.inr (some 50)] M21 r25 M24 → (let M26 : mM := mW1 M24 50 37 r25; (¬ r25 = (-1) → ((nI 0) = 0 ∨ (nI 0) = 1) ∧ (let M28 : mM := mW1 M26 50 40 (nI 0); P none M28)) ∧ (¬ (¬ r25 = (-1)) → ((nI 1) = 0 ∨ (nI 1) = 1) ∧ (let M29 : mM := mW1 M26 50 40 (nI 1); P none M29)))) ∧ (¬ (¬ (nI 2) = (nI 2)) → ∃ x30 : List Int32 × Nat × Nat, pre_X8_suitRead x30 [.inr (some 50)] M21 ∧ ∀ (r32 : Int32) (M31 : mM), post_X8_suitRead x30 [.inr (some 50)] M21 r32 M31 → (let M33 : mM := mW1 M31 50 37 r32; (¬ r32 = (-1) → ((nI 0) = 0 ∨ (nI 0) = 1) ∧ (let M35 : mM := mW1 M33 50 40 (nI 0); P none M35)) ∧ (¬ (¬ r32 = (-1)) → ((nI 1) = 0 ∨ (nI 1) = 1) ∧ (let M36 : mM := mW1 M33 50 40 (nI 1); P none M36))))))) :
    mRun (mSx g) (f_X8_next g) P (117, [some (.inr (some 50)), some (.inl c)], [], M) := mRun.vc (m_X8_next g) [] 27 h

theorem w_nx_188 (g : mG) (M : mM) (P : mP) (c : Int32)
    (h : let M1 : mM := mW1 M 50 36 (nI 3); let M2 : mM := mW1 M1 50 37 (nI 0); mRun (mSx g) (f_X8_next g) P (198, [some (.inr (some 50)), some (.inl c)], [], M2)) :
    mRun (mSx g) (f_X8_next g) P (188, [some (.inr (some 50)), some (.inl c)], [], M) := mRun.vc (m_X8_next g) [198] 7 h

set_option maxRecDepth 100000 in
theorem w_nx_198 (g : mG) (M : mM) (P : mP) (c : Int32)
    (h : ∃ x1 : List Int32 × Nat, pre_X8_byteAt x1 [.inr (some 50), .inl (M 50 34)] M ∧ ∀ (r3 : Int32) (M2 : mM), post_X8_byteAt x1 [.inr (some 50), .inl (M 50 34)] M r3 M2 → (((fIn r3 (nI 48) (nI 57)) = 0 → mRun (mSx g) (f_X8_next g) P (266, [some (.inr (some 50)), some (.inl c)], [], M2)) ∧ (¬ ((fIn r3 (nI 48) (nI 57)) = 0) → ((nI 6) ≤ ((M2 50 34) - (M2 50 35)) → let M6 : mM := mW1 M2 50 34 ((M2 50 34) + (nI 1)); mRun (mSx g) (f_X8_next g) P (198, [some (.inr (some 50)), some (.inl c)], [], M6)) ∧ (¬ ((nI 6) ≤ ((M2 50 34) - (M2 50 35))) → ∃ x7 : List Int32 × Nat, pre_X8_byteAt x7 [.inr (some 50), .inl (M2 50 34)] M2 ∧ ∀ (r9 : Int32) (M8 : mM), post_X8_byteAt x7 [.inr (some 50), .inl (M2 50 34)] M2 r9 M8 → (let M10 : mM := mW1 M8 50 37 ((((nI 10) * (M2 50 37)) + r9) - (nI 48)); let M11 : mM := mW1 M10 50 34 ((M8 50 34) + (nI 1)); mRun (mSx g) (f_X8_next g) P (198, [some (.inr (some 50)), some (.inl c)], [], M11)))))) :
    mRun (mSx g) (f_X8_next g) P (198, [some (.inr (some 50)), some (.inl c)], [], M) := mRun.vc (m_X8_next g) [198, 266] 36 h

theorem w_nx_266 (g : mG) (M : mM) (P : mP) (c : Int32)
    (h : (((M 50 34) - (M 50 35)) ≤ (nI 6) → ((nI 0) = 0 ∨ (nI 0) = 1) ∧ (let M2 : mM := mW1 M 50 40 (nI 0); P none M2)) ∧ (¬ (((M 50 34) - (M 50 35)) ≤ (nI 6)) → ((nI 1) = 0 ∨ (nI 1) = 1) ∧ (let M3 : mM := mW1 M 50 40 (nI 1); P none M3))) :
    mRun (mSx g) (f_X8_next g) P (266, [some (.inr (some 50)), some (.inl c)], [], M) := mRun.vc (m_X8_next g) [] 13 h

theorem w_nx_292 (g : mG) (M : mM) (P : mP) (c : Int32)
    (h : ((nI 1) = 0 ∨ (nI 1) = 1) ∧ (let M1 : mM := mW1 M 50 40 (nI 1); P none M1)) :
    mRun (mSx g) (f_X8_next g) P (292, [some (.inr (some 50)), some (.inl c)], [], M) := mRun.vc (m_X8_next g) [] 4 h

theorem nx_86 (g : mG) (P : mP) (M0 : mM) (t : List Int32) (b : Nat) (c : Int32) (hT : RmTp M0 t) (hl : t.length ≤ 40) (hk : ∀ M, NXF M0 M → M 50 34 = nI (skip cL t b) → M 50 35 = nI b → mRun (mSx g) (f_X8_next g) P (117, [some (.inr (some 50)), some (.inl c)], [], M)) :
    ∀ (n i : Nat) (M : mM), i + n = t.length → skip cL t i = skip cL t b → M 50 34 = nI i → M 50 35 = nI b → NXF M0 M → mRun (mSx g) (f_X8_next g) P (86, [some (.inr (some 50)), some (.inl c)], [], M)
  | n, i, M, h, hs, e, e35, hF => by
    refine w_nx_86 g M P _ ⟨(t, i), ⟨by rw [e], hF.tp hT, hl, by show i < 100; omega⟩, fun r M2 hr => ?_⟩
    obtain ⟨hr, h2⟩ := hr
    rw [h2, show r = bA t i from hr, e, fIn_L, mb_0]
    refine ⟨fun q => hk _ hF ?_ e35, fun q => ?_⟩
    · rw [← hs, skip_no (Bool.eq_false_iff.mpr q)]
      exact e
    · have q' := Classical.not_not.mp q
      have hi : i < t.length := bA_lt (f := cL) (by decide) q'
      match n, h with
      | 0, h => omega
      | m + 1, h =>
        rw [nI_add]
        intro M5
        exact nx_86 g P M0 t b c hT hl hk m (i + 1) M5 (by omega) (by rw [← hs, skip_yes hi q']) mW1_s ((mW1_k (by decide) : M5 50 35 = M 50 35).trans e35) (hF.up (Or.inl (by decide)))
theorem nx_117 (g : mG) (P : mP) (M0 M : mM) (t : List Int32) (p : Nat) (c : Int32) (hp : p ≤ t.length) (hT : RmTp M0 t) (hl : t.length ≤ 40) (hb : skip cB t p ≠ t.length) (hL : cL (bA t (skip cB t p)) = true) (hF : NXF M0 M) (e34 : M 50 34 = nI (skip cL t (skip cB t p))) (e35 : M 50 35 = nI (skip cB t p)) (hP : ∀ M', LX M' t p → NXF M0 M' → P none M') :
    mRun (mSx g) (f_X8_next g) P (117, [some (.inr (some 50)), some (.inl c)], [], M) := by
  have hs := skip_le (f := cB) hp
  have hs2 := skip_le (f := cL) hs.2
  have hlx : lx t p = (match lSu t (skip cB t p) (skip cL t (skip cB t p)) with
    | some s => some (2, s, skip cL t (skip cB t p))
    | none => (lWd t (skip cB t p) (skip cL t (skip cB t p))).map fun w => (1, w, skip cL t (skip cB t p))) := by
    unfold lx
    rw [if_neg hb, if_pos hL]
  refine w_nx_117 g M P _ ⟨(t, skip cB t p, skip cL t (skip cB t p)), ⟨rfl, hF.tp hT, hl, e35, e34, hs2.1, hs2.2⟩, fun r M2 hr => ?_⟩
  obtain ⟨hr, h2⟩ := hr
  rw [h2, show r = oI (lSu t (skip cB t p) (skip cL t (skip cB t p))) from hr]
  have fin : ∀ (k v w : Nat), k ≠ 0 → lx t p = some (k, v, skip cL t (skip cB t p)) → P none (mW1 (mW1 (mW1 M 50 36 (nI k)) 50 37 (nI v)) 50 40 (nI 0)) := fun k v w hk he => by
    refine hP _ ⟨?_, ?_⟩ (((hF.up (Or.inl (by decide))).up (Or.inl (by decide))).up (Or.inr rfl))
    · rw [mW1_k (by decide), mW1_k (by decide), mW1_k (by decide)]
      exact e35
    · rw [he]
      refine ⟨mW1_s, ?_, fun _ => ?_, ?_, hs2.2⟩
      · rw [mW1_k (by decide), mW1_k (by decide), mW1_s]
      · rw [mW1_k (by decide), mW1_s]
      · rw [mW1_k (by decide), mW1_k (by decide), mW1_k (by decide)]
        exact e34
  cases hs' : lSu t (skip cB t p) (skip cL t (skip cB t p)) with
  | none =>
    refine ⟨fun _ => ?_, fun q => absurd rfl q⟩
    intro M5
    refine ⟨fun _ => ⟨(t, skip cB t p, skip cL t (skip cB t p)), ⟨rfl, (hF.up (Or.inl (by decide))).tp hT, hl, (mW1_k (by decide) : M5 50 35 = M 50 35).trans e35, (mW1_k (by decide) : M5 50 34 = M 50 34).trans e34, hs2.1, hs2.2⟩, fun r M8 hr => ?_⟩, fun q => absurd (by decide) q⟩
    obtain ⟨hr, h8⟩ := hr
    rw [h8, show r = oI (lWd t (skip cB t p) (skip cL t (skip cB t p))) from hr]
    rw [hs'] at hlx
    cases hw : lWd t (skip cB t p) (skip cL t (skip cB t p)) with
    | none =>
      intro M10
      refine ⟨fun q => absurd rfl q, fun _ => ⟨Or.inr rfl, ?_⟩⟩
      refine hP _ ⟨?_, ?_⟩ (((hF.up (Or.inl (by decide))).up (Or.inl (by decide))).up (Or.inr rfl))
      · show mW1 (mW1 (mW1 M 50 36 _) 50 37 _) 50 40 _ 50 35 = _
        rw [mW1_k (by decide), mW1_k (by decide), mW1_k (by decide)]
        exact e35
      · rw [hlx, hw]
        exact mW1_s
    | some w =>
      have hw9 : w < 9 := by
        have := fO_lt hw
        omega
      intro M10
      refine ⟨fun _ => ⟨Or.inl rfl, ?_⟩, fun q => absurd (ne_m1 (show w < 2 ^ 31 by omega)) q⟩
      exact fin 1 w 0 (by decide) (by rw [hlx, hw]; rfl)
  | some s =>
    have hs5 : s < 5 := by
      rw [lSu_at] at hs'
      split at hs'
      · cases hs'; decide
      split at hs'
      · cases hs'; decide
      split at hs'
      · cases hs'; decide
      split at hs'
      · cases hs'; decide
      split at hs'
      · cases hs'; decide
      · cases hs'
    refine ⟨fun q => absurd q (ne_m1 (show s < 2 ^ 31 by omega)), fun _ => ?_⟩
    intro M21
    refine ⟨fun q => absurd rfl q, fun _ => ⟨(t, skip cB t p, skip cL t (skip cB t p)), ⟨rfl, (hF.up (Or.inl (by decide))).tp hT, hl, (mW1_k (by decide) : M21 50 35 = M 50 35).trans e35, (mW1_k (by decide) : M21 50 34 = M 50 34).trans e34, hs2.1, hs2.2⟩, fun r M31 hr => ?_⟩⟩
    obtain ⟨hr, h31⟩ := hr
    rw [h31, show r = oI (lSu t (skip cB t p) (skip cL t (skip cB t p))) from hr, hs']
    intro M33
    refine ⟨fun _ => ⟨Or.inl rfl, ?_⟩, fun q => absurd (ne_m1 (show s < 2 ^ 31 by omega)) q⟩
    exact fin 2 s 0 (by decide) (by rw [hlx, hs'])
theorem nx_198 (g : mG) (P : mP) (M0 : mM) (t : List Int32) (b : Nat) (c : Int32) (hT : RmTp M0 t) (hl : t.length ≤ 40) (hb : b ≤ t.length) (hk : ∀ M, NXF M0 M → M 50 34 = nI (skip cD t b) → M 50 35 = nI b → M 50 36 = nI 3 → M 50 37 = nI (dV t b (min 6 (skip cD t b - b))) → mRun (mSx g) (f_X8_next g) P (266, [some (.inr (some 50)), some (.inl c)], [], M)) :
    ∀ (n i : Nat) (M : mM), i + n = t.length → b ≤ i → (∀ j, j < i - b → cD (bA t (b + j)) = true) → skip cD t i = skip cD t b → M 50 34 = nI i → M 50 35 = nI b → M 50 36 = nI 3 → M 50 37 = nI (dV t b (min 6 (i - b))) → NXF M0 M → mRun (mSx g) (f_X8_next g) P (198, [some (.inr (some 50)), some (.inl c)], [], M)
  | n, i, M, h, hbi, hdig, hs, e, e35, e36, e37, hF => by
    refine w_nx_198 g M P _ ⟨(t, i), ⟨by rw [e], hF.tp hT, hl, by show i < 100; omega⟩, fun r M2 hr => ?_⟩
    obtain ⟨hr, h2⟩ := hr
    rw [h2, show r = bA t i from hr, e, e35, fIn_D, mb_0, pk_sub hbi]
    refine ⟨fun q => ?_, fun q => ?_⟩
    · have hi : skip cD t b = i := by rw [← hs, skip_no (Bool.eq_false_iff.mpr q)]
      refine hk _ hF (by rw [hi]; exact e) e35 e36 (by rw [hi]; exact e37)
    · have q' := Classical.not_not.mp q
      have hi : i < t.length := bA_lt (f := cD) (by decide) q'
      have hdig' : ∀ j, j < i + 1 - b → cD (bA t (b + j)) = true := fun j hj => by
        by_cases hj2 : j < i - b
        · exact hdig j hj2
        · rw [show b + j = i by omega]
          exact q'
      match n, h with
      | 0, h => omega
      | m + 1, h =>
        rw [nI_add]
        refine ⟨fun q6 => ?_, fun q6 => ⟨(t, i), ⟨rfl, hF.tp hT, hl, by show i < 100; omega⟩, fun r M8 hr => ?_⟩⟩
        · have q6' := (nI_leI (by decide) (by omega)).mp q6
          intro M6
          refine nx_198 g P M0 t b c hT hl hb hk m (i + 1) M6 (by omega) (by omega) hdig' (by rw [← hs, skip_yes hi q']) mW1_s ((mW1_k (by decide) : M6 50 35 = M 50 35).trans e35) ((mW1_k (by decide) : M6 50 36 = M 50 36).trans e36) ?_ (hF.up (Or.inl (by decide)))
          refine (mW1_k (by decide) : M6 50 37 = M 50 37).trans ?_
          rw [e37, show min 6 (i - b) = min 6 (i + 1 - b) by omega]
        · have q6' : ¬ 6 ≤ i - b := fun y => q6 (nI_le y (by omega))
          obtain ⟨hr, h8⟩ := hr
          have hc := cD_t q'
          have hv := dV_le (t := t) (a := b) (i - b) hdig
          have hpw : 10 ^ (i - b) ≤ 10 ^ 6 := Nat.pow_le_pow_right (by decide) (by omega)
          have hval : nI 10 * M 50 37 + bA t i - nI 48 = nI (dV t b (min 6 (i + 1 - b))) := by
            rw [e37, hc.2.2, show min 6 (i - b) = i - b by omega, show min 6 (i + 1 - b) = i - b + 1 by omega, dV, show b + (i - b) = i by omega, pk_mul, nI_add, pk_sub (by omega)]
            exact congrArg nI (by omega)
          rw [h8, show r = bA t i from hr, hval, e, nI_add]
          intro M10 M11
          refine nx_198 g P M0 t b c hT hl hb hk m (i + 1) M11 (by omega) (by omega) hdig' (by rw [← hs, skip_yes hi q']) mW1_s ?_ ?_ ?_ ((hF.up (Or.inl (by decide))).up (Or.inl (by decide)))
          · show mW1 (mW1 M 50 37 _) 50 34 _ 50 35 = _
            rw [mW1_k (by decide), mW1_k (by decide)]
            exact e35
          · show mW1 (mW1 M 50 37 _) 50 34 _ 50 36 = _
            rw [mW1_k (by decide), mW1_k (by decide)]
            exact e36
          · show mW1 (mW1 M 50 37 _) 50 34 _ 50 37 = _
            rw [mW1_k (by decide), mW1_s]

theorem nx_8' (g : mG) (P : mP) (M0 : mM) (t : List Int32) (p : Nat) (hT : RmTp M0 t) (hl : t.length ≤ 40) (h40 : M0 50 40 = 0) (hk : ∀ M, NXF M0 M → M 50 34 = nI (skip cB t p) → M 50 40 = 0 → mRun (mSx g) (f_X8_next g) P (47, [some (.inr (some 50)), none], [], M)) :
    ∀ (n i : Nat) (M : mM), i + n = t.length → skip cB t i = skip cB t p → M 50 34 = nI i → M 50 40 = 0 → NXF M0 M → mRun (mSx g) (f_X8_next g) P (8, [some (.inr (some 50)), none], [], M)
  | n, i, M, h, hs, e, e40, hF => by
    refine w_nx_8 g M P ⟨(t, i), ⟨by rw [e], hF.tp hT, hl, by show i < 100; omega⟩, fun r M2 hr => ?_⟩
    obtain ⟨hr, h2⟩ := hr
    have go : cB (bA t i) = true → mRun (mSx g) (f_X8_next g) P (8, [some (.inr (some 50)), none], [], mW1 M 50 34 (nI i + nI 1)) := fun hb => by
      have hi : i < t.length := bA_lt (f := cB) (by decide) hb
      match n, h with
      | 0, h => omega
      | m + 1, h =>
        rw [nI_add]
        exact nx_8' g P M0 t p hT hl h40 hk m (i + 1) _ (by omega) (by rw [← hs, skip_yes hi hb]) mW1_s ((mW1_k (by decide)).trans e40) (hF.up (Or.inl (by decide)))
    rw [h2, show r = bA t i from hr, e]
    refine ⟨fun q => go (cB_t.mpr (Or.inl q)), fun q1 => ⟨(t, i), ⟨rfl, hF.tp hT, hl, by show i < 100; omega⟩, fun r M7 hr => ?_⟩⟩
    obtain ⟨hr, h7⟩ := hr
    rw [h7, show r = bA t i from hr, e]
    refine ⟨fun q2 => hk _ hF ?_ e40, fun q2 => go (cB_t.mpr (Or.inr (Classical.not_not.mp q2)))⟩
    rw [← hs, skip_no (Bool.eq_false_iff.mpr (fun y => (cB_t.mp y).elim q1 q2))]
    exact e
theorem run_X8_next : mRunOf 2 t_X8_next f_X8_next := fun g as M P hT => by
  obtain ⟨⟨t, p⟩, ⟨rfl, hR, hl, hbt, e40, e34, hp⟩, hP⟩ := hT
  refine ⟨Nat.le_of_ble_eq_true rfl, ?_⟩
  dsimp only at hR hl hbt e40 e34 hp hP
  have hP' : ∀ M', LX M' t p → NXF M M' → P none M' := fun M' a b => hP M' ⟨a, b⟩
  have hs := skip_le (f := cB) hp
  refine w_nx_0 g M P ⟨fun _ => ?_, fun q => absurd e40 q⟩
  refine nx_8' g P M t p hR hl e40 (fun M1 hF e1 f40 => ?_) (t.length - p) p M (by omega) rfl e34 e40 NXF.refl
  refine w_nx_47 g M1 P ?_
  rw [e1]
  intro M2
  have hF2 : NXF M M2 := hF.up (Or.inl (by decide))
  have g34 : M2 50 34 = nI (skip cB t p) := (mW1_k (by decide) : M2 50 34 = M1 50 34).trans e1
  have g35 : M2 50 35 = nI (skip cB t p) := mW1_s
  have g40 : M2 50 40 = 0 := (mW1_k (by decide) : M2 50 40 = M1 50 40).trans f40
  clear_value M2
  refine ⟨(t, skip cB t p), ⟨rfl, hF2.tp hR, hl, by show skip cB t p < 100; omega⟩, fun r M3 hr => ?_⟩
  obtain ⟨hr, h3⟩ := hr
  rw [h3, show r = bA t (skip cB t p) from hr]
  intro M5
  have hF5 : NXF M M5 := hF2.up (Or.inl (by decide))
  have k34 : M5 50 34 = nI (skip cB t p) := (mW1_k (by decide) : M5 50 34 = M2 50 34).trans g34
  have k35 : M5 50 35 = nI (skip cB t p) := (mW1_k (by decide) : M5 50 35 = M2 50 35).trans g35
  have k40 : M5 50 40 = 0 := (mW1_k (by decide) : M5 50 40 = M2 50 40).trans g40
  have k36 : M5 50 36 = nI 0 := mW1_s
  clear_value M5
  rw [fIn_L, fIn_D, mb_0, mb_0]
  refine ⟨fun n1 => ?_, fun n1 => ?_⟩
  · have hb : skip cB t p ≠ t.length := fun y => n1 (bA_end (by omega))
    refine ⟨fun nL => ⟨fun nD => ?_, fun nD => ?_⟩, fun nL => ?_⟩
    · refine w_nx_292 g M5 P _ ⟨Or.inr rfl, ?_⟩
      intro M6
      refine hP' M6 ⟨(mW1_k (by decide) : M6 50 35 = M5 50 35).trans k35, ?_⟩ (hF5.up (Or.inr rfl))
      unfold lx
      rw [if_neg hb, if_neg nL, if_neg nD]
      exact mW1_s
    · have nD' := Classical.not_not.mp nD
      refine w_nx_188 g M5 P _ ?_
      intro M6 M7
      have hF7 : NXF M M7 := (hF5.up (Or.inl (by decide))).up (Or.inl (by decide))
      have m34 : M7 50 34 = nI (skip cB t p) := by
        show mW1 (mW1 M5 50 36 _) 50 37 _ 50 34 = _
        rw [mW1_k (by decide), mW1_k (by decide)]
        exact k34
      have m35 : M7 50 35 = nI (skip cB t p) := by
        show mW1 (mW1 M5 50 36 _) 50 37 _ 50 35 = _
        rw [mW1_k (by decide), mW1_k (by decide)]
        exact k35
      have m36 : M7 50 36 = nI 3 := by
        show mW1 (mW1 M5 50 36 _) 50 37 _ 50 36 = _
        rw [mW1_k (by decide), mW1_s]
      have m37 : M7 50 37 = nI 0 := mW1_s
      clear_value M7
      have hs3 := skip_le (f := cD) hs.2
      refine nx_198 g P M t (skip cB t p) _ hR hl hs.2 (fun M8 hF8 a34 a35 a36 a37 => ?_) (t.length - skip cB t p) (skip cB t p) M7 (by omega) (Nat.le_refl _) (fun j hj => by omega) rfl m34 m35 m36 (by rw [m37, Nat.sub_self]; rfl) hF7
      refine w_nx_266 g M8 P _ ?_
      rw [a34, a35, pk_sub hs3.1, nI_leI (by omega) (by decide)]
      have hlx : lx t p = if skip cD t (skip cB t p) - skip cB t p ≤ 6 then some (3, dV t (skip cB t p) (skip cD t (skip cB t p) - skip cB t p), skip cD t (skip cB t p)) else none := by
        unfold lx
        rw [if_neg hb, if_neg nL, if_pos nD']
      refine ⟨fun q6 => ⟨Or.inl rfl, ?_⟩, fun q6 => ⟨Or.inr rfl, ?_⟩⟩
      · intro M9
        rw [if_pos q6] at hlx
        refine hP' M9 ⟨(mW1_k (by decide) : M9 50 35 = M8 50 35).trans a35, ?_⟩ (hF8.up (Or.inr rfl))
        rw [hlx]
        refine ⟨mW1_s, (mW1_k (by decide) : M9 50 36 = M8 50 36).trans a36, fun _ => ?_, (mW1_k (by decide) : M9 50 34 = M8 50 34).trans a34, hs3.2⟩
        refine (mW1_k (by decide) : M9 50 37 = M8 50 37).trans ?_
        rw [a37, show min 6 (skip cD t (skip cB t p) - skip cB t p) = skip cD t (skip cB t p) - skip cB t p by omega]
      · intro M9
        rw [if_neg q6] at hlx
        refine hP' M9 ⟨(mW1_k (by decide) : M9 50 35 = M8 50 35).trans a35, ?_⟩ (hF8.up (Or.inr rfl))
        rw [hlx]
        exact mW1_s
    · have nL' := Classical.not_not.mp nL
      exact nx_86 g P M t (skip cB t p) _ hR hl (fun M8 hF8 a34 a35 => nx_117 g P M M8 t p _ hp hR hl hb nL' hF8 a34 a35 hP') (t.length - skip cB t p) (skip cB t p) M5 (by omega) rfl k34 k35 hF5
  · have n1' := Classical.not_not.mp n1
    have hb : skip cB t p = t.length := by
      rcases Nat.lt_or_ge (skip cB t p) t.length with q | q
      · exfalso
        have hm := hbt (t[skip cB t p]) (List.getElem_mem _)
        have he : bA t (skip cB t p) = t[skip cB t p] := by
          unfold bA
          rw [List.getD_eq_getElem?_getD, List.getElem?_eq_getElem q]
          rfl
        rw [← he, n1', toInt_m1] at hm
        omega
      · omega
    refine hP' M5 ⟨k35, ?_⟩ hF5
    have hlx : lx t p = some (0, 0, t.length) := by
      unfold lx
      rw [if_pos hb]
    rw [hlx]
    exact ⟨k40, k36, fun q => absurd rfl q, by rw [k34, hb], Nat.le_refl _⟩
theorem ok_X8_next : mOK yX8_next cX8_next 2 (none) 7 t_X8_next := mOK.of f_X8_next (by decide) (fun _ => rfl) (fun g => mCodeOK kk_X8_next) (fun g => mFldL fk_RX8 rfl) (fun g idx v h => by cases h) (fun g idx v h => by cases h) (mCalL (l := l_X8_next) (List.forall_mem_cons.mpr ⟨mSite.V (idx := 240) ok_X8_byteAt (by decide) (by decide) rv_X8_byteAt wc_X8_byteAt wk_RX8_240 wi_X8_byteAt wl_X8_byteAt wn_RX8 wd_X8_byteAt, List.forall_mem_cons.mpr ⟨mSite.S (idx := 214) ok_X8_in (by decide) (by decide) wc_X8_in wk_RX8_214 wt_X8_in wn_RX8 wd_X8_in, List.forall_mem_cons.mpr ⟨mSite.V (idx := 283) ok_X8_suitRead (by decide) (by decide) rv_X8_suitRead wc_X8_suitRead wk_RX8_283 wi_X8_suitRead wl_X8_suitRead wn_RX8 wd_X8_suitRead, List.forall_mem_cons.mpr ⟨mSite.V (idx := 286) ok_X8_wordRead (by decide) (by decide) rv_X8_wordRead wc_X8_wordRead wk_RX8_286 wi_X8_wordRead wl_X8_wordRead wn_RX8 wd_X8_wordRead, fun _ h => absurd h List.not_mem_nil⟩⟩⟩⟩) (fun _ => rfl)) run_X8_next

