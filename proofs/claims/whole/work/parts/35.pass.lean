/-! ===== CLASS Table: a pass ===== -/
theorem aWn_nil {x : aX} {s : Nat} : aWn x [] s (([] : List Nat).length / 4) = 0 := by
  rw [List.length_nil, Nat.zero_div]
  rfl
theorem aTn_nil {x : aX} (h : x.2.2.2 < 4) : aTn x [] ([] : List Nat).length = x.2.2.2 := by
  rw [List.length_nil, aTn_0 (by decide) h]
  rfl
/-- a table in the bidding, as far as a pass asks -/
def okPass (T : aT) : Prop := T.1.2.1 < 4 ∧ T.2.1.1.1 < 4 ∧ T.2.1.1.2.2 < 4 ∧ T.2.2.1.2.2 = (0, 0, []) ∧ ∀ w, T.2.1.2.1 = some w → w.1 < 100 ∧ w.2.1 < 5 ∧ ∃ d, d < 4 ∧ T.2.1.2.2.2 (5 * (w.2.2 % 2) + w.2.1) = some d
def pre_X5_pass (q : Nat × aT × Nat) (as : List mV) (M : mM) : Prop := (q.1 = 13 ∨ q.1 = 26) ∧ as = [.inr (some q.1)] ∧ RpT q.1 M q.2.1 ∧ okPass q.2.1
def post_X5_pass (q : Nat × aT × Nat) (_ : List mV) (M : mM) (M' : mM) : Prop := RpT q.1 M' (tPass q.2.1) ∧ FrT q.1 M M'
abbrev t_X5_pass : mG → mT := mRv pre_X5_pass post_X5_pass
theorem mo_X5_pass : mMn t_X5_pass := mRv_mono
theorem rv_X5_pass : mHasR yX5_pass 0 t_X5_pass := by
  intro g as M P hT hl
  obtain ⟨q, ⟨h1, h2, -⟩, -⟩ := hT
  refine ⟨_, _, h2, is_X5 g _ ?_⟩
  rcases h1 with h1 | h1 <;> rw [h1] <;> rfl
def k_X5_pass : List (Nat × mI) := [(0, .aload_n 0, 1, 0, 0, []),
  (1, .getfield 12, 3, 0, 0, []),
  (4, .invokevirtual 94, 3, 0, 0, []),
  (7, .aload_n 0, 1, 0, 0, []),
  (8, .getfield 12, 3, 0, 0, []),
  (11, .invokevirtual 95, 3, 0, 0, []),
  (14, .ifCond .eq 51, 3, 65, 0, []),
  (17, .aload_n 0, 1, 0, 0, []),
  (18, .getfield 12, 3, 0, 0, []),
  (21, .invokevirtual 98, 3, 0, 0, []),
  (24, .aload_n 0, 1, 0, 0, []),
  (25, .iconst 2, 1, 0, nI 2, []),
  (26, .putfield 35, 3, 0, 0, []),
  (29, .aload_n 0, 1, 0, 0, []),
  (30, .getfield 21, 3, 0, 0, []),
  (33, .aload_n 0, 1, 0, 0, []),
  (34, .getfield 12, 3, 0, 0, []),
  (37, .getfield 101, 3, 0, 0, []),
  (40, .iconst 1, 1, 0, nI 1, []),
  (41, .iadd, 1, 0, 0, []),
  (42, .iconst 3, 1, 0, nI 3, []),
  (43, .iand, 1, 0, 0, []),
  (44, .aload_n 0, 1, 0, 0, []),
  (45, .getfield 12, 3, 0, 0, []),
  (48, .getfield 104, 3, 0, 0, []),
  (51, .aload_n 0, 1, 0, 0, []),
  (52, .getfield 42, 3, 0, 0, []),
  (55, .aload_n 0, 1, 0, 0, []),
  (56, .getfield 45, 3, 0, 0, []),
  (59, .invokevirtual 107, 3, 0, 0, []),
  (62, .goto 18, 3, 80, 0, []),
  (65, .aload_n 0, 1, 0, 0, []),
  (66, .getfield 12, 3, 0, 0, []),
  (69, .getfield 110, 3, 0, 0, []),
  (72, .iconst 4, 1, 0, nI 4, []),
  (73, .if_icmp .lt 7, 3, 80, 0, []),
  (76, .aload_n 0, 1, 0, 0, []),
  (77, .invokevirtual 113, 3, 0, 0, []),
  (80, .return_, 1, 0, 0, [])]
theorem kk_X5_pass : (k_X5_pass.all fun e => mChk cX5_pass e.1 e.2) = true := by decide +kernel
def l_X5_pass : List (Nat × Nat × (mG → mT)) := [(3 * 94, 0 + 1, t_X1_pass), (3 * 95, 0 + 1, t_X1_hasContract), (3 * 98, 0 + 1, t_X1_nameDeclarer), (3 * 107, 4 + 1, t_X2_begin), (3 * 113, 0 + 1, t_X5_endDeal)]
def f_X5_pass (g : mG) : mF := (mLk k_X5_pass, mLk fl_RX5, mLk (l_X5_pass.map fun e => (e.1, e.2.1, e.2.2 g)), mLk ([] : List (Nat × mV)), mLk ([] : List (Nat × mV)), none)
theorem m_X5_pass (g : mG) : mMono (f_X5_pass g) := mMonoL (g := g) (l := l_X5_pass) (List.forall_mem_cons.mpr ⟨mo_X1_pass, List.forall_mem_cons.mpr ⟨mo_X1_hasContract, List.forall_mem_cons.mpr ⟨mo_X1_nameDeclarer, List.forall_mem_cons.mpr ⟨mo_X2_begin, List.forall_mem_cons.mpr ⟨mo_X5_endDeal, fun _ h => absurd h List.not_mem_nil⟩⟩⟩⟩⟩) rfl

set_option maxRecDepth 100000 in
theorem v_pa_0_13 (g : mG) (M : mM) (P : mP) 
    (h : let M1 : mM := mW1 M 14 6 ((M 14 6) + (nI 1)); let M2 : mM := mW1 M1 14 1 (((M 14 1) + (nI 1)) &&& (nI 3)); ((M 14 2) = (-1) → ((nI 0) = 0 ∨ (nI 0) = 1) ∧ (((nI 0) = 0 → (((M 14 6) + (nI 1)) < (nI 4) → P none M2) ∧ (¬ ((M 14 6) + (nI 1)) < (nI 4) → let M3 : mM := mW1 M2 13 3 (nI 0); let M4 : mM := mW1 M3 13 4 (((M 13 4) + (nI 1)) &&& (nI 3)); P none M4)) ∧ (¬ (nI 0) = 0 → let M5 : mM := mW1 M2 14 7 (aAt (M 15) 10 (((M 14 4) * (nI 5)) + (M 14 3))); let M6 : mM := mW1 M5 13 3 (nI 2); let M7 : mM := mW1 M6 16 8 (((aAt (M 15) 10 (((M 14 4) * (nI 5)) + (M 14 3))) + (nI 1)) &&& (nI 3)); let M8 : mM := mW1 M7 16 9 (M 14 3); let M9 : mM := mW1 M8 16 10 (M 13 5); let M10 : mM := mW1 M9 16 11 (M 13 6); P none M10))) ∧ (¬ (M 14 2) = (-1) → (((M 14 6) + (nI 1)) < (nI 3) → ((nI 0) = 0 ∨ (nI 0) = 1) ∧ (((nI 0) = 0 → (((M 14 6) + (nI 1)) < (nI 4) → P none M2) ∧ (¬ ((M 14 6) + (nI 1)) < (nI 4) → let M11 : mM := mW1 M2 13 3 (nI 0); let M12 : mM := mW1 M11 13 4 (((M 13 4) + (nI 1)) &&& (nI 3)); P none M12)) ∧ (¬ (nI 0) = 0 → let M13 : mM := mW1 M2 14 7 (aAt (M 15) 10 (((M 14 4) * (nI 5)) + (M 14 3))); let M14 : mM := mW1 M13 13 3 (nI 2); let M15 : mM := mW1 M14 16 8 (((aAt (M 15) 10 (((M 14 4) * (nI 5)) + (M 14 3))) + (nI 1)) &&& (nI 3)); let M16 : mM := mW1 M15 16 9 (M 14 3); let M17 : mM := mW1 M16 16 10 (M 13 5); let M18 : mM := mW1 M17 16 11 (M 13 6); P none M18))) ∧ (¬ ((M 14 6) + (nI 1)) < (nI 3) → ((nI 1) = 0 ∨ (nI 1) = 1) ∧ (((nI 1) = 0 → (((M 14 6) + (nI 1)) < (nI 4) → P none M2) ∧ (¬ ((M 14 6) + (nI 1)) < (nI 4) → let M19 : mM := mW1 M2 13 3 (nI 0); let M20 : mM := mW1 M19 13 4 (((M 13 4) + (nI 1)) &&& (nI 3)); P none M20)) ∧ (¬ (nI 1) = 0 → let M21 : mM := mW1 M2 14 7 (aAt (M 15) 10 (((M 14 4) * (nI 5)) + (M 14 3))); let M22 : mM := mW1 M21 13 3 (nI 2); let M23 : mM := mW1 M22 16 8 (((aAt (M 15) 10 (((M 14 4) * (nI 5)) + (M 14 3))) + (nI 1)) &&& (nI 3)); let M24 : mM := mW1 M23 16 9 (M 14 3); let M25 : mM := mW1 M24 16 10 (M 13 5); let M26 : mM := mW1 M25 16 11 (M 13 6); P none M26))))) :
    mRun (mSx g) (f_X5_pass g) P (0, [some (.inr (some 13))], [], M) := mRun.vc (m_X5_pass g) [] 32 h

theorem pa_bid_13 {M : mM} {T : aT} (hR : RpT 13 M T) (h1 : T.2.1.1.1 < 4) : RpT 13 (mW1 (mW1 M 14 6 (M 14 6 + nI 1)) 14 1 ((M 14 1 + nI 1) &&& nI 3)) (T.1, bPass T.2.1, T.2.2) ∧ FrT 13 M (mW1 (mW1 M 14 6 (M 14 6 + nI 1)) 14 1 ((M 14 1 + nI 1) &&& nI 3)) := by
  obtain ⟨hT, ⟨b1, b5, b6, b2, b3, b4, b7, b8⟩, hp, hS⟩ := hR
  have f : ∀ (v w : Int32) (c : Nat), c ≠ 14 → mW1 (mW1 M 14 6 v) 14 1 w c = M c := fun v w c h => by rw [mW1_c h, mW1_c h]
  have g : ∀ (v w : Int32) (k : Nat), k ≠ 1 → k ≠ 6 → mW1 (mW1 M 14 6 v) 14 1 w 14 k = M 14 k := fun v w k h1 h6 => by rw [mW1_k h1, mW1_k h6]
  have b1' : M 14 1 = nI T.2.1.1.1 := b1
  have b6' : M 14 6 = nI T.2.1.1.2.2 := b6
  rw [b1', b6', nI_add, nI_add, nI_and3 _ (by omega)]
  refine ⟨⟨?_, ⟨mW1_s, (g _ _ 5 (by decide) (by decide)).trans b5, ?_, (g _ _ 2 (by decide) (by decide)).trans b2, (g _ _ 3 (by decide) (by decide)).trans b3, (g _ _ 4 (by decide) (by decide)).trans b4, (g _ _ 7 (by decide) (by decide)).trans b7, fun j hj => ?_⟩, RpS_fr hp (fun k hk => f _ _ _ (by omega)), RpSc_fr hS (f _ _ _ (by decide)) (f _ _ _ (by decide))⟩, fun c hc => f _ _ _ (by omega)⟩
  · rw [f _ _ 13 (by decide)]
    exact hT
  · show mW1 (mW1 M 14 6 _) 14 1 _ 14 6 = _
    rw [mW1_k (by decide), mW1_s]
    rfl
  · rw [f _ _ (14 + 1) (by decide)]
    exact b8 j hj
theorem pa_con_13 {M M2 : mM} {T : aT} {n u q d : Nat} (hR : RpT 13 M T) (hR2 : RpT 13 M2 (T.1, bPass T.2.1, T.2.2)) (hF : FrT 13 M M2) (ho : T.2.1.2.1 = some (n, u, q)) (hd : d < 4) (hnm : T.2.1.2.2.2 (5 * (q % 2) + u) = some d) (hpl : T.2.2.1.2.2 = (0, 0, [])) (h3 : 3 ≤ (bPass T.2.1).1.2.2) : RpT 13 (mW1 (mW1 (mW1 (mW1 (mW1 (mW1 M2 14 7 (nI d)) 13 3 (nI 2)) 16 8 (nI (nx d))) 16 9 (M 14 3)) 16 10 (M 13 5)) 16 11 (M 13 6)) (tPass T) ∧ FrT 13 M (mW1 (mW1 (mW1 (mW1 (mW1 (mW1 M2 14 7 (nI d)) 13 3 (nI 2)) 16 8 (nI (nx d))) 16 9 (M 14 3)) 16 10 (M 13 5)) 16 11 (M 13 6)) := by
  obtain ⟨⟨v0, v1, v2, v3⟩, ⟨⟨c1, c2, c3⟩, o, dc, nm⟩, ⟨x, dl, a0, a1, cs⟩, S⟩ := T
  dsimp only at ho hnm hpl
  subst ho
  obtain ⟨ha0, hpl2⟩ := Prod.mk.inj hpl
  obtain ⟨ha1, hcs⟩ := Prod.mk.inj hpl2
  subst ha0 ha1 hcs
  obtain ⟨⟨-, q4, q5, q6⟩, ⟨-, -, -, -, q3, -⟩, -⟩ := hR
  obtain ⟨⟨-, r4, r5, r6⟩, ⟨b1, b5, b6, b2, b3, b4, b7, b8⟩, ⟨⟨p1, -⟩, -, p3, p4, -, -, p7, p8⟩, hS⟩ := hR2
  have q3' : M 14 3 = nI u := q3
  have q5' : M 13 5 = nI v2 := q5
  have q6' : M 13 6 = nI v3 := q6
  rw [q3', q5', q6']
  have f : ∀ (z1 z2 z3 z4 z5 z6 : Int32) (c : Nat), c ≠ 14 → c ≠ 13 → c ≠ 16 → mW1 (mW1 (mW1 (mW1 (mW1 (mW1 M2 14 7 z1) 13 3 z2) 16 8 z3) 16 9 z4) 16 10 z5) 16 11 z6 c = M2 c := fun z1 z2 z3 z4 z5 z6 c h1 h2 h3 => by rw [mW1_c h3, mW1_c h3, mW1_c h3, mW1_c h3, mW1_c h2, mW1_c h1]
  have e : tPass ((v0, v1, v2, v3), ((c1, c2, c3), some (n, u, q), dc, nm), (x, dl, 0, 0, []), S) = ((2, v1, v2, v3), ((nx c1, c2, c3 + 1), some (n, u, q), some d, nm), ((nI u, v2, nI v3, nx d), dl, 0, 0, []), S) := by
    refine (if_pos h3).trans ?_
    dsimp only [bPass]
    rw [hnm]
    rfl
  rw [e]
  refine ⟨⟨⟨?_, ?_, ?_, ?_⟩, ⟨?_, ?_, ?_, ?_, ?_, ?_, ?_, fun j hj => ?_⟩, ⟨⟨?_, ?_, ?_, ?_, ?_⟩, fun j hj => absurd hj (Nat.not_lt_zero _), fun j hj => ?_, fun j hj => ?_, fun i hi => absurd hi (Nat.not_lt_zero _), fun i hi => absurd hi (Nat.not_succ_le_zero _), ?_, ?_⟩, RpSc_fr hS (f _ _ _ _ _ _ _ (by decide) (by decide) (by decide)) (f _ _ _ _ _ _ _ (by decide) (by decide) (by decide))⟩, fun c hc => (f _ _ _ _ _ _ _ (by omega) (by omega) (by omega)).trans (hF c hc)⟩
  · rw [mW1_c (by decide), mW1_c (by decide), mW1_c (by decide), mW1_c (by decide), mW1_s]
  · rw [mW1_c (by decide), mW1_c (by decide), mW1_c (by decide), mW1_c (by decide), mW1_k (by decide), mW1_c (by decide)]
    exact r4
  · rw [mW1_c (by decide), mW1_c (by decide), mW1_c (by decide), mW1_c (by decide), mW1_k (by decide), mW1_c (by decide)]
    exact r5
  · rw [mW1_c (by decide), mW1_c (by decide), mW1_c (by decide), mW1_c (by decide), mW1_k (by decide), mW1_c (by decide)]
    exact r6
  · rw [mW1_c (by decide), mW1_c (by decide), mW1_c (by decide), mW1_c (by decide), mW1_c (by decide), mW1_k (by decide)]
    exact b1
  · rw [mW1_c (by decide), mW1_c (by decide), mW1_c (by decide), mW1_c (by decide), mW1_c (by decide), mW1_k (by decide)]
    exact b5
  · rw [mW1_c (by decide), mW1_c (by decide), mW1_c (by decide), mW1_c (by decide), mW1_c (by decide), mW1_k (by decide)]
    exact b6
  · rw [mW1_c (by decide), mW1_c (by decide), mW1_c (by decide), mW1_c (by decide), mW1_c (by decide), mW1_k (by decide)]
    exact b2
  · rw [mW1_c (by decide), mW1_c (by decide), mW1_c (by decide), mW1_c (by decide), mW1_c (by decide), mW1_k (by decide)]
    exact b3
  · rw [mW1_c (by decide), mW1_c (by decide), mW1_c (by decide), mW1_c (by decide), mW1_c (by decide), mW1_k (by decide)]
    exact b4
  · rw [mW1_c (by decide), mW1_c (by decide), mW1_c (by decide), mW1_c (by decide), mW1_c (by decide), mW1_s]
    exact rfl
  · rw [f _ _ _ _ _ _ (14 + 1) (by decide) (by decide) (by decide)]
    exact b8 j hj
  · rw [mW1_k (by decide), mW1_k (by decide), mW1_k (by decide), mW1_k (by decide), mW1_c (by decide), mW1_c (by decide)]
    exact p1
  · rw [mW1_k (by decide), mW1_k (by decide), mW1_k (by decide), mW1_s]
    exact congrArg nI (aTn_nil (x := (nI u, v2, nI v3, nx d)) (Nat.mod_lt _ (by decide))).symm
  · rw [mW1_k (by decide), mW1_k (by decide), mW1_s]
  · rw [mW1_k (by decide), mW1_s]
  · rw [mW1_s]
  · rw [f _ _ _ _ _ _ (16 + 2) (by decide) (by decide) (by decide)]
    exact p3 j hj
  · rw [f _ _ _ _ _ _ (16 + 3) (by decide) (by decide) (by decide)]
    exact p4 j hj
  · rw [f _ _ _ _ _ _ (16 + 7) (by decide) (by decide) (by decide)]
    have k : M2 23 0 = nI (aWn x [] 0 (([] : List Nat).length / 4)) + 0 := p7
    rw [aWn_nil] at k
    show _ = nI (aWn _ [] 0 (([] : List Nat).length / 4)) + (0 : Int32)
    rw [aWn_nil]
    exact k
  · rw [f _ _ _ _ _ _ (16 + 7) (by decide) (by decide) (by decide)]
    have k : M2 23 1 = nI (aWn x [] 1 (([] : List Nat).length / 4)) + 0 := p8
    rw [aWn_nil] at k
    show _ = nI (aWn _ [] 1 (([] : List Nat).length / 4)) + (0 : Int32)
    rw [aWn_nil]
    exact k
set_option maxRecDepth 100000 in
theorem v_pa_0_26 (g : mG) (M : mM) (P : mP) 
    (h : let M1 : mM := mW1 M 27 6 ((M 27 6) + (nI 1)); let M2 : mM := mW1 M1 27 1 (((M 27 1) + (nI 1)) &&& (nI 3)); ((M 27 2) = (-1) → ((nI 0) = 0 ∨ (nI 0) = 1) ∧ (((nI 0) = 0 → (((M 27 6) + (nI 1)) < (nI 4) → P none M2) ∧ (¬ ((M 27 6) + (nI 1)) < (nI 4) → let M3 : mM := mW1 M2 26 3 (nI 0); let M4 : mM := mW1 M3 26 4 (((M 26 4) + (nI 1)) &&& (nI 3)); P none M4)) ∧ (¬ (nI 0) = 0 → let M5 : mM := mW1 M2 27 7 (aAt (M 28) 10 (((M 27 4) * (nI 5)) + (M 27 3))); let M6 : mM := mW1 M5 26 3 (nI 2); let M7 : mM := mW1 M6 29 8 (((aAt (M 28) 10 (((M 27 4) * (nI 5)) + (M 27 3))) + (nI 1)) &&& (nI 3)); let M8 : mM := mW1 M7 29 9 (M 27 3); let M9 : mM := mW1 M8 29 10 (M 26 5); let M10 : mM := mW1 M9 29 11 (M 26 6); P none M10))) ∧ (¬ (M 27 2) = (-1) → (((M 27 6) + (nI 1)) < (nI 3) → ((nI 0) = 0 ∨ (nI 0) = 1) ∧ (((nI 0) = 0 → (((M 27 6) + (nI 1)) < (nI 4) → P none M2) ∧ (¬ ((M 27 6) + (nI 1)) < (nI 4) → let M11 : mM := mW1 M2 26 3 (nI 0); let M12 : mM := mW1 M11 26 4 (((M 26 4) + (nI 1)) &&& (nI 3)); P none M12)) ∧ (¬ (nI 0) = 0 → let M13 : mM := mW1 M2 27 7 (aAt (M 28) 10 (((M 27 4) * (nI 5)) + (M 27 3))); let M14 : mM := mW1 M13 26 3 (nI 2); let M15 : mM := mW1 M14 29 8 (((aAt (M 28) 10 (((M 27 4) * (nI 5)) + (M 27 3))) + (nI 1)) &&& (nI 3)); let M16 : mM := mW1 M15 29 9 (M 27 3); let M17 : mM := mW1 M16 29 10 (M 26 5); let M18 : mM := mW1 M17 29 11 (M 26 6); P none M18))) ∧ (¬ ((M 27 6) + (nI 1)) < (nI 3) → ((nI 1) = 0 ∨ (nI 1) = 1) ∧ (((nI 1) = 0 → (((M 27 6) + (nI 1)) < (nI 4) → P none M2) ∧ (¬ ((M 27 6) + (nI 1)) < (nI 4) → let M19 : mM := mW1 M2 26 3 (nI 0); let M20 : mM := mW1 M19 26 4 (((M 26 4) + (nI 1)) &&& (nI 3)); P none M20)) ∧ (¬ (nI 1) = 0 → let M21 : mM := mW1 M2 27 7 (aAt (M 28) 10 (((M 27 4) * (nI 5)) + (M 27 3))); let M22 : mM := mW1 M21 26 3 (nI 2); let M23 : mM := mW1 M22 29 8 (((aAt (M 28) 10 (((M 27 4) * (nI 5)) + (M 27 3))) + (nI 1)) &&& (nI 3)); let M24 : mM := mW1 M23 29 9 (M 27 3); let M25 : mM := mW1 M24 29 10 (M 26 5); let M26 : mM := mW1 M25 29 11 (M 26 6); P none M26))))) :
    mRun (mSx g) (f_X5_pass g) P (0, [some (.inr (some 26))], [], M) := mRun.vc (m_X5_pass g) [] 32 h

theorem pa_bid_26 {M : mM} {T : aT} (hR : RpT 26 M T) (h1 : T.2.1.1.1 < 4) : RpT 26 (mW1 (mW1 M 27 6 (M 27 6 + nI 1)) 27 1 ((M 27 1 + nI 1) &&& nI 3)) (T.1, bPass T.2.1, T.2.2) ∧ FrT 26 M (mW1 (mW1 M 27 6 (M 27 6 + nI 1)) 27 1 ((M 27 1 + nI 1) &&& nI 3)) := by
  obtain ⟨hT, ⟨b1, b5, b6, b2, b3, b4, b7, b8⟩, hp, hS⟩ := hR
  have f : ∀ (v w : Int32) (c : Nat), c ≠ 27 → mW1 (mW1 M 27 6 v) 27 1 w c = M c := fun v w c h => by rw [mW1_c h, mW1_c h]
  have g : ∀ (v w : Int32) (k : Nat), k ≠ 1 → k ≠ 6 → mW1 (mW1 M 27 6 v) 27 1 w 27 k = M 27 k := fun v w k h1 h6 => by rw [mW1_k h1, mW1_k h6]
  have b1' : M 27 1 = nI T.2.1.1.1 := b1
  have b6' : M 27 6 = nI T.2.1.1.2.2 := b6
  rw [b1', b6', nI_add, nI_add, nI_and3 _ (by omega)]
  refine ⟨⟨?_, ⟨mW1_s, (g _ _ 5 (by decide) (by decide)).trans b5, ?_, (g _ _ 2 (by decide) (by decide)).trans b2, (g _ _ 3 (by decide) (by decide)).trans b3, (g _ _ 4 (by decide) (by decide)).trans b4, (g _ _ 7 (by decide) (by decide)).trans b7, fun j hj => ?_⟩, RpS_fr hp (fun k hk => f _ _ _ (by omega)), RpSc_fr hS (f _ _ _ (by decide)) (f _ _ _ (by decide))⟩, fun c hc => f _ _ _ (by omega)⟩
  · rw [f _ _ 26 (by decide)]
    exact hT
  · show mW1 (mW1 M 27 6 _) 27 1 _ 27 6 = _
    rw [mW1_k (by decide), mW1_s]
    rfl
  · rw [f _ _ (27 + 1) (by decide)]
    exact b8 j hj
theorem pa_con_26 {M M2 : mM} {T : aT} {n u q d : Nat} (hR : RpT 26 M T) (hR2 : RpT 26 M2 (T.1, bPass T.2.1, T.2.2)) (hF : FrT 26 M M2) (ho : T.2.1.2.1 = some (n, u, q)) (hd : d < 4) (hnm : T.2.1.2.2.2 (5 * (q % 2) + u) = some d) (hpl : T.2.2.1.2.2 = (0, 0, [])) (h3 : 3 ≤ (bPass T.2.1).1.2.2) : RpT 26 (mW1 (mW1 (mW1 (mW1 (mW1 (mW1 M2 27 7 (nI d)) 26 3 (nI 2)) 29 8 (nI (nx d))) 29 9 (M 27 3)) 29 10 (M 26 5)) 29 11 (M 26 6)) (tPass T) ∧ FrT 26 M (mW1 (mW1 (mW1 (mW1 (mW1 (mW1 M2 27 7 (nI d)) 26 3 (nI 2)) 29 8 (nI (nx d))) 29 9 (M 27 3)) 29 10 (M 26 5)) 29 11 (M 26 6)) := by
  obtain ⟨⟨v0, v1, v2, v3⟩, ⟨⟨c1, c2, c3⟩, o, dc, nm⟩, ⟨x, dl, a0, a1, cs⟩, S⟩ := T
  dsimp only at ho hnm hpl
  subst ho
  obtain ⟨ha0, hpl2⟩ := Prod.mk.inj hpl
  obtain ⟨ha1, hcs⟩ := Prod.mk.inj hpl2
  subst ha0 ha1 hcs
  obtain ⟨⟨-, q4, q5, q6⟩, ⟨-, -, -, -, q3, -⟩, -⟩ := hR
  obtain ⟨⟨-, r4, r5, r6⟩, ⟨b1, b5, b6, b2, b3, b4, b7, b8⟩, ⟨⟨p1, -⟩, -, p3, p4, -, -, p7, p8⟩, hS⟩ := hR2
  have q3' : M 27 3 = nI u := q3
  have q5' : M 26 5 = nI v2 := q5
  have q6' : M 26 6 = nI v3 := q6
  rw [q3', q5', q6']
  have f : ∀ (z1 z2 z3 z4 z5 z6 : Int32) (c : Nat), c ≠ 27 → c ≠ 26 → c ≠ 29 → mW1 (mW1 (mW1 (mW1 (mW1 (mW1 M2 27 7 z1) 26 3 z2) 29 8 z3) 29 9 z4) 29 10 z5) 29 11 z6 c = M2 c := fun z1 z2 z3 z4 z5 z6 c h1 h2 h3 => by rw [mW1_c h3, mW1_c h3, mW1_c h3, mW1_c h3, mW1_c h2, mW1_c h1]
  have e : tPass ((v0, v1, v2, v3), ((c1, c2, c3), some (n, u, q), dc, nm), (x, dl, 0, 0, []), S) = ((2, v1, v2, v3), ((nx c1, c2, c3 + 1), some (n, u, q), some d, nm), ((nI u, v2, nI v3, nx d), dl, 0, 0, []), S) := by
    refine (if_pos h3).trans ?_
    dsimp only [bPass]
    rw [hnm]
    rfl
  rw [e]
  refine ⟨⟨⟨?_, ?_, ?_, ?_⟩, ⟨?_, ?_, ?_, ?_, ?_, ?_, ?_, fun j hj => ?_⟩, ⟨⟨?_, ?_, ?_, ?_, ?_⟩, fun j hj => absurd hj (Nat.not_lt_zero _), fun j hj => ?_, fun j hj => ?_, fun i hi => absurd hi (Nat.not_lt_zero _), fun i hi => absurd hi (Nat.not_succ_le_zero _), ?_, ?_⟩, RpSc_fr hS (f _ _ _ _ _ _ _ (by decide) (by decide) (by decide)) (f _ _ _ _ _ _ _ (by decide) (by decide) (by decide))⟩, fun c hc => (f _ _ _ _ _ _ _ (by omega) (by omega) (by omega)).trans (hF c hc)⟩
  · rw [mW1_c (by decide), mW1_c (by decide), mW1_c (by decide), mW1_c (by decide), mW1_s]
  · rw [mW1_c (by decide), mW1_c (by decide), mW1_c (by decide), mW1_c (by decide), mW1_k (by decide), mW1_c (by decide)]
    exact r4
  · rw [mW1_c (by decide), mW1_c (by decide), mW1_c (by decide), mW1_c (by decide), mW1_k (by decide), mW1_c (by decide)]
    exact r5
  · rw [mW1_c (by decide), mW1_c (by decide), mW1_c (by decide), mW1_c (by decide), mW1_k (by decide), mW1_c (by decide)]
    exact r6
  · rw [mW1_c (by decide), mW1_c (by decide), mW1_c (by decide), mW1_c (by decide), mW1_c (by decide), mW1_k (by decide)]
    exact b1
  · rw [mW1_c (by decide), mW1_c (by decide), mW1_c (by decide), mW1_c (by decide), mW1_c (by decide), mW1_k (by decide)]
    exact b5
  · rw [mW1_c (by decide), mW1_c (by decide), mW1_c (by decide), mW1_c (by decide), mW1_c (by decide), mW1_k (by decide)]
    exact b6
  · rw [mW1_c (by decide), mW1_c (by decide), mW1_c (by decide), mW1_c (by decide), mW1_c (by decide), mW1_k (by decide)]
    exact b2
  · rw [mW1_c (by decide), mW1_c (by decide), mW1_c (by decide), mW1_c (by decide), mW1_c (by decide), mW1_k (by decide)]
    exact b3
  · rw [mW1_c (by decide), mW1_c (by decide), mW1_c (by decide), mW1_c (by decide), mW1_c (by decide), mW1_k (by decide)]
    exact b4
  · rw [mW1_c (by decide), mW1_c (by decide), mW1_c (by decide), mW1_c (by decide), mW1_c (by decide), mW1_s]
    exact rfl
  · rw [f _ _ _ _ _ _ (27 + 1) (by decide) (by decide) (by decide)]
    exact b8 j hj
  · rw [mW1_k (by decide), mW1_k (by decide), mW1_k (by decide), mW1_k (by decide), mW1_c (by decide), mW1_c (by decide)]
    exact p1
  · rw [mW1_k (by decide), mW1_k (by decide), mW1_k (by decide), mW1_s]
    exact congrArg nI (aTn_nil (x := (nI u, v2, nI v3, nx d)) (Nat.mod_lt _ (by decide))).symm
  · rw [mW1_k (by decide), mW1_k (by decide), mW1_s]
  · rw [mW1_k (by decide), mW1_s]
  · rw [mW1_s]
  · rw [f _ _ _ _ _ _ (29 + 2) (by decide) (by decide) (by decide)]
    exact p3 j hj
  · rw [f _ _ _ _ _ _ (29 + 3) (by decide) (by decide) (by decide)]
    exact p4 j hj
  · rw [f _ _ _ _ _ _ (29 + 7) (by decide) (by decide) (by decide)]
    have k : M2 36 0 = nI (aWn x [] 0 (([] : List Nat).length / 4)) + 0 := p7
    rw [aWn_nil] at k
    show _ = nI (aWn _ [] 0 (([] : List Nat).length / 4)) + (0 : Int32)
    rw [aWn_nil]
    exact k
  · rw [f _ _ _ _ _ _ (29 + 7) (by decide) (by decide) (by decide)]
    have k : M2 36 1 = nI (aWn x [] 1 (([] : List Nat).length / 4)) + 0 := p8
    rw [aWn_nil] at k
    show _ = nI (aWn _ [] 1 (([] : List Nat).length / 4)) + (0 : Int32)
    rw [aWn_nil]
    exact k
