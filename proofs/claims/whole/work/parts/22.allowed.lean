/-! ===== CLASS Play: allowed ===== -/
abbrev aP : Type := aX × (Nat → Int32) × Int32 × Int32 × List Nat
def RpS (p : Nat) (M : mM) (a : aP) : Prop := RpP p M a.1 a.2.1 a.2.2.1 a.2.2.2.1 a.2.2.2.2
def aOkS (a : aP) : Prop := aOk a.1 a.2.1 a.2.2.2.2
/-- the set of the numbers below k that f has -/
def aBs (f : Nat → Bool) : Nat → Int32
  | 0 => 0
  | k + 1 => if f k then aBs f k ||| fBit (nI k) else aBs f k
theorem bt_aBs {f : Nat → Bool} {j : Nat} (hj : j < 32) : ∀ {k : Nat}, k ≤ 32 → bt (aBs f k) j = (decide (j < k) && f j)
  | 0, _ => by
    rw [aBs, bt_0]
    simp
  | k + 1, hk => by
    rw [aBs]
    by_cases q : j = k
    · subst q
      rw [decide_eq_true (show j < j + 1 by omega)]
      split
      · rename_i hf
        rw [bt_or, bt_fBit j hj j hj, hf]
        simp
      · rename_i hf
        rw [bt_aBs hj (by omega), decide_eq_false (show ¬ j < j by omega)]
        simp
        simpa using hf
    · have e : decide (j < k + 1) = decide (j < k) := decide_eq_decide.mpr (by omega)
      rw [e]
      split
      · rw [bt_or, bt_aBs hj (by omega), bt_fBit k (by omega) j hj, decide_eq_false q]
        simp
      · rw [bt_aBs hj (by omega)]
def aAl (x : aX) (dl : Nat → Int32) (cs : List Nat) : Int32 :=
  if cs.length % 4 = 0 then aHd dl cs (aTn x cs cs.length)
  else if aHd dl cs (aTn x cs cs.length) &&& fSuit (nI (aC cs (cs.length - cs.length % 4) / 8)) ≠ 0 then aHd dl cs (aTn x cs cs.length) &&& fSuit (nI (aC cs (cs.length - cs.length % 4) / 8))
  else if x.2.2.1 = 0 ∨ aHd dl cs (aTn x cs cs.length) &&& fSuit x.1 = 0 then aHd dl cs (aTn x cs cs.length)
  else if x.2.2.1 = nI 2 ∧ (aHd dl cs (aTn x cs cs.length) &&& fSuit x.1) &&& aBs (aSt x.1 x.2.1 cs) 32 ≠ 0 then (aHd dl cs (aTn x cs cs.length) &&& fSuit x.1) &&& aBs (aSt x.1 x.2.1 cs) 32
  else aHd dl cs (aTn x cs cs.length) &&& fSuit x.1
theorem fSuit_of {h t : Int32} (hn : h &&& fSuit t ≠ 0) : ∃ u, u < 4 ∧ t = nI u := by
  unfold fSuit at hn
  split at hn
  · rename_i q
    obtain ⟨j, hj, rfl⟩ := nI_of (show ¬ t < 0 by rw [Int32.not_lt]; exact q.1)
    refine ⟨j, ?_, rfl⟩
    have := q.2
    rw [fa_lt, nI_toInt hj, nI_toInt (by decide)] at this
    omega
  · exact absurd (by rw [show nI 0 = 0 from rfl]; refine bt_ext (fun i _ => ?_); rw [bt_and, bt_0]; simp) hn
def pre_X2_allowed (q : Nat × aP) (as : List mV) (M : mM) : Prop := pl_X2 q.1 = true ∧ as = [.inr (some q.1)] ∧ RpS q.1 M q.2 ∧ aOkS q.2
def post_X2_allowed (q : Nat × aP) (_ : List mV) (M : mM) (v : Int32) (M' : mM) : Prop := v = aAl q.2.1 q.2.2.1 q.2.2.2.2.2 ∧ M' = M
abbrev t_X2_allowed : mG → mT := mRi pre_X2_allowed post_X2_allowed
theorem mo_X2_allowed : mMn t_X2_allowed := mRi_mono
theorem rv_X2_allowed : mHasR yX2_allowed 0 t_X2_allowed := by
  intro g as M P hT hl
  obtain ⟨q, ⟨h1, h2, -⟩, -⟩ := hT
  exact ⟨_, _, h2, is_X2 g _ h1⟩
def k_X2_allowed : List (Nat × mI) := [(0, .aload_n 0, 1, 0, 0, []),
  (1, .getfield 18, 3, 0, 0, []),
  (4, .aload_n 0, 1, 0, 0, []),
  (5, .getfield 67, 3, 0, 0, []),
  (8, .invokestatic 56, 3, 0, 0, []),
  (11, .istore_n 1, 1, 1, 0, []),
  (12, .aload_n 0, 1, 0, 0, []),
  (13, .getfield 37, 3, 0, 0, []),
  (16, .iconst 4, 1, 0, nI 4, []),
  (17, .irem, 1, 0, 0, []),
  (18, .istore_n 2, 1, 2, 0, []),
  (19, .iload_n 2, 1, 2, 0, []),
  (20, .ifCond .ne 5, 3, 25, 0, []),
  (23, .iload_n 1, 1, 1, 0, []),
  (24, .ireturn, 1, 0, 0, []),
  (25, .iload_n 1, 1, 1, 0, []),
  (26, .aload_n 0, 1, 0, 0, []),
  (27, .getfield 21, 3, 0, 0, []),
  (30, .aload_n 0, 1, 0, 0, []),
  (31, .getfield 37, 3, 0, 0, []),
  (34, .iload_n 2, 1, 2, 0, []),
  (35, .isub, 1, 0, 0, []),
  (36, .invokestatic 56, 3, 0, 0, []),
  (39, .bipush 8, 2, 0, nI 8, []),
  (41, .idiv, 1, 0, 0, []),
  (42, .invokestatic 83, 3, 0, 0, []),
  (45, .iand, 1, 0, 0, []),
  (46, .istore_n 3, 1, 3, 0, []),
  (47, .iload_n 3, 1, 3, 0, []),
  (48, .ifCond .eq 5, 3, 53, 0, []),
  (51, .iload_n 3, 1, 3, 0, []),
  (52, .ireturn, 1, 0, 0, []),
  (53, .iload_n 1, 1, 1, 0, []),
  (54, .aload_n 0, 1, 0, 0, []),
  (55, .getfield 70, 3, 0, 0, []),
  (58, .invokestatic 83, 3, 0, 0, []),
  (61, .iand, 1, 0, 0, []),
  (62, .istore 4, 2, 4, 0, []),
  (64, .aload_n 0, 1, 0, 0, []),
  (65, .getfield 76, 3, 0, 0, []),
  (68, .ifCond .eq 8, 3, 76, 0, []),
  (71, .iload 4, 2, 4, 0, []),
  (73, .ifCond .ne 5, 3, 78, 0, []),
  (76, .iload_n 1, 1, 1, 0, []),
  (77, .ireturn, 1, 0, 0, []),
  (78, .aload_n 0, 1, 0, 0, []),
  (79, .getfield 76, 3, 0, 0, []),
  (82, .iconst 2, 1, 0, nI 2, []),
  (83, .if_icmp .ne 14, 3, 97, 0, []),
  (86, .iload 4, 2, 4, 0, []),
  (88, .aload_n 0, 1, 0, 0, []),
  (89, .iload_n 2, 1, 2, 0, []),
  (90, .invokevirtual 86, 3, 0, 0, []),
  (93, .iand, 1, 0, 0, []),
  (94, .goto 5, 3, 99, 0, []),
  (97, .iload 4, 2, 4, 0, []),
  (99, .istore 5, 2, 5, 0, []),
  (101, .iload 5, 2, 5, 0, []),
  (103, .ifCond .eq 8, 3, 111, 0, []),
  (106, .iload 5, 2, 5, 0, []),
  (108, .goto 5, 3, 113, 0, []),
  (111, .iload 4, 2, 4, 0, []),
  (113, .ireturn, 1, 0, 0, [])]
theorem kk_X2_allowed : (k_X2_allowed.all fun e => mChk cX2_allowed e.1 e.2) = true := by decide +kernel
def l_X2_allowed : List (Nat × Nat × (mG → mT)) := [(3 * 56 + 1, 2, t_X7_at), (3 * 83 + 1, 1, t_X7_bitsOfSuit), (3 * 86, 1 + 1, t_X2_strongerTrumps)]
def f_X2_allowed (g : mG) : mF := (mLk k_X2_allowed, mLk fl_RX2, mLk (l_X2_allowed.map fun e => (e.1, e.2.1, e.2.2 g)), mLk ([] : List (Nat × mV)), mLk ([] : List (Nat × mV)), some .int)
theorem m_X2_allowed (g : mG) : mMono (f_X2_allowed g) := mMonoL (g := g) (l := l_X2_allowed) (List.forall_mem_cons.mpr ⟨mo_X7_at, List.forall_mem_cons.mpr ⟨mo_X7_bitsOfSuit, List.forall_mem_cons.mpr ⟨mo_X2_strongerTrumps, fun _ h => absurd h List.not_mem_nil⟩⟩⟩) rfl

set_option maxRecDepth 100000 in
theorem v_al_16 (g : mG) (M : mM) (P : mP) 
    (h : ¬ (nI 4) = 0 ∧ ((¬ ((M 16 7) - (M 16 7) / (nI 4) * (nI 4)) = 0 → ¬ (nI 8) = 0 ∧ (let v1 : Int32 := (aAt (M 19) 4 (M 16 8)) &&& (fSuit ((aAt (M 20) 32 ((M 16 7) - ((M 16 7) - (M 16 7) / (nI 4) * (nI 4)))) / (nI 8))); (v1 = 0 → let v2 : Int32 := (aAt (M 19) 4 (M 16 8)) &&& (fSuit (M 16 9)); ((M 16 11) = 0 → P (some (.inl (aAt (M 19) 4 (M 16 8)))) M) ∧ (¬ (M 16 11) = 0 → (¬ v2 = 0 → (¬ (M 16 11) = (nI 2) → (v2 = 0 → P (some (.inl v2)) M) ∧ (¬ v2 = 0 → P (some (.inl v2)) M)) ∧ (¬ (¬ (M 16 11) = (nI 2)) → ∃ x3 : Nat × Nat × Nat × List Nat, pre_X2_strongerTrumps x3 [.inr (some 16), .inl ((M 16 7) - (M 16 7) / (nI 4) * (nI 4))] M ∧ ∀ (r5 : Int32) (M4 : mM), post_X2_strongerTrumps x3 [.inr (some 16), .inl ((M 16 7) - (M 16 7) / (nI 4) * (nI 4))] M r5 M4 → (((v2 &&& r5) = 0 → P (some (.inl v2)) M4) ∧ (¬ (v2 &&& r5) = 0 → P (some (.inl (v2 &&& r5))) M4)))) ∧ (¬ (¬ v2 = 0) → P (some (.inl (aAt (M 19) 4 (M 16 8)))) M))) ∧ (¬ v1 = 0 → P (some (.inl v1)) M))) ∧ (¬ (¬ ((M 16 7) - (M 16 7) / (nI 4) * (nI 4)) = 0) → P (some (.inl (aAt (M 19) 4 (M 16 8)))) M))) :
    mRun (mSx g) (f_X2_allowed g) P (0, [some (.inr (some 16)), none, none, none, none, none], [], M) := mRun.vc (m_X2_allowed g) [] 55 h

set_option maxRecDepth 100000 in
theorem v_al_29 (g : mG) (M : mM) (P : mP) 
    (h : ¬ (nI 4) = 0 ∧ ((¬ ((M 29 7) - (M 29 7) / (nI 4) * (nI 4)) = 0 → ¬ (nI 8) = 0 ∧ (let v1 : Int32 := (aAt (M 32) 4 (M 29 8)) &&& (fSuit ((aAt (M 33) 32 ((M 29 7) - ((M 29 7) - (M 29 7) / (nI 4) * (nI 4)))) / (nI 8))); (v1 = 0 → let v2 : Int32 := (aAt (M 32) 4 (M 29 8)) &&& (fSuit (M 29 9)); ((M 29 11) = 0 → P (some (.inl (aAt (M 32) 4 (M 29 8)))) M) ∧ (¬ (M 29 11) = 0 → (¬ v2 = 0 → (¬ (M 29 11) = (nI 2) → (v2 = 0 → P (some (.inl v2)) M) ∧ (¬ v2 = 0 → P (some (.inl v2)) M)) ∧ (¬ (¬ (M 29 11) = (nI 2)) → ∃ x3 : Nat × Nat × Nat × List Nat, pre_X2_strongerTrumps x3 [.inr (some 29), .inl ((M 29 7) - (M 29 7) / (nI 4) * (nI 4))] M ∧ ∀ (r5 : Int32) (M4 : mM), post_X2_strongerTrumps x3 [.inr (some 29), .inl ((M 29 7) - (M 29 7) / (nI 4) * (nI 4))] M r5 M4 → (((v2 &&& r5) = 0 → P (some (.inl v2)) M4) ∧ (¬ (v2 &&& r5) = 0 → P (some (.inl (v2 &&& r5))) M4)))) ∧ (¬ (¬ v2 = 0) → P (some (.inl (aAt (M 32) 4 (M 29 8)))) M))) ∧ (¬ v1 = 0 → P (some (.inl v1)) M))) ∧ (¬ (¬ ((M 29 7) - (M 29 7) / (nI 4) * (nI 4)) = 0) → P (some (.inl (aAt (M 32) 4 (M 29 8)))) M))) :
    mRun (mSx g) (f_X2_allowed g) P (0, [some (.inr (some 29)), none, none, none, none, none], [], M) := mRun.vc (m_X2_allowed g) [] 55 h

set_option maxHeartbeats 4000000 in
theorem al_run_16 (g : mG) (M : mM) (P : mP) (x : aX) (dl : Nat → Int32) (a0 a1 : Int32) (cs : List Nat) (hR : RpP 16 M x dl a0 a1 cs) (hok : aOk x dl cs)
    (hP : P (some (.inl (aAl x dl cs))) M) : mRun (mSx g) (f_X2_allowed g) P (0, [some (.inr (some 16)), none, none, none, none, none], [], M) := by
  obtain ⟨⟨r1, r2, r3, r4, r5⟩, r6, r7, r8, r9, r10, r11, r12⟩ := hR
  have hlt := aOk.lt hok
  obtain ⟨k1, k2, k3, k4, k5⟩ := hok
  have e1 : aAt (M 19) 4 (M 16 8) = aHd dl cs (aTn x cs cs.length) := by rw [r2, aAt_in aTn_lt (by decide)]; exact r8 _ aTn_lt
  have e2 : M 16 7 - M 16 7 / nI 4 * nI 4 = nI (cs.length % 4) := by rw [r1]; exact nI_mod4 (by omega)
  refine v_al_16 g M P ⟨n4, ?_⟩
  rw [e1, e2]
  generalize hH : aHd dl cs (aTn x cs cs.length) = hd at *
  have hz : ∀ n : Nat, n < 4 → (nI n = 0 ↔ n = 0) := fun n hn => ⟨fun z => (nI_eq (by omega) (by decide)).mp z, fun z => by rw [z]; rfl⟩
  have hm : cs.length % 4 < 4 := Nat.mod_lt _ (by decide)
  have al : aAl x dl cs = (if cs.length % 4 = 0 then hd else if hd &&& fSuit (nI (aC cs (cs.length - cs.length % 4) / 8)) ≠ 0 then hd &&& fSuit (nI (aC cs (cs.length - cs.length % 4) / 8)) else if x.2.2.1 = 0 ∨ hd &&& fSuit x.1 = 0 then hd else if x.2.2.1 = nI 2 ∧ (hd &&& fSuit x.1) &&& aBs (aSt x.1 x.2.1 cs) 32 ≠ 0 then (hd &&& fSuit x.1) &&& aBs (aSt x.1 x.2.1 cs) 32 else hd &&& fSuit x.1) := by
    unfold aAl
    rw [hH]
  rw [al] at hP
  refine ⟨fun h1 => ?_, fun h1 => ?_⟩
  · have h1' : ¬ cs.length % 4 = 0 := fun z => h1 ((hz _ hm).mpr z)
    rw [if_neg h1'] at hP
    have hin : cs.length - cs.length % 4 < cs.length := by omega
    have hcl := hlt _ (aC_in hin)
    have e3 : aAt (M 20) 32 (M 16 7 - nI (cs.length % 4)) / nI 8 = nI (aC cs (cs.length - cs.length % 4) / 8) := by
      rw [r1, pk_sub (by omega), aAt_in (by omega) (by decide), show M 20 (cs.length - cs.length % 4) = nI (aC cs (cs.length - cs.length % 4)) from r6 _ hin]
      exact nI_div8 (by omega)
    refine ⟨n8, ?_⟩
    rw [e3, r3, r5]
    generalize hd &&& fSuit (nI (aC cs (cs.length - cs.length % 4) / 8)) = fo at *
    refine ⟨fun h2 => ?_, fun h2 => ?_⟩
    · rw [if_neg (by simpa using h2)] at hP
      have two : ¬ hd &&& fSuit x.1 = 0 → ¬ x.2.2.1 = 0 → ∀ w, w = (if x.2.2.1 = nI 2 ∧ (hd &&& fSuit x.1) &&& aBs (aSt x.1 x.2.1 cs) 32 ≠ 0 then (hd &&& fSuit x.1) &&& aBs (aSt x.1 x.2.1 cs) 32 else hd &&& fSuit x.1) → P (some (.inl w)) M := fun z1 z2 w hw => by
        rw [if_neg (fun z => z.elim z2 z1)] at hP
        rw [hw]
        exact hP
      have one : (x.2.2.1 = 0 ∨ hd &&& fSuit x.1 = 0) → P (some (.inl hd)) M := fun z => by
        rw [if_pos z] at hP
        exact hP
      refine ⟨fun h3 => one (Or.inl h3), fun h3 => ⟨fun h4 => ?_, fun h4 => one (Or.inr (Classical.not_not.mp h4))⟩⟩
      have tw := two h4 h3
      refine ⟨fun h5 => ?_, fun h5 => ?_⟩
      · have := tw (hd &&& fSuit x.1) (by rw [if_neg (fun z => h5 z.1)])
        exact ⟨fun z => absurd z h4, fun _ => this⟩
      · have h5' := Classical.not_not.mp h5
        obtain ⟨u, hu, eu⟩ := fSuit_of h4
        refine ⟨(16, u, x.2.1, cs), ⟨rfl, rfl, hu, k1, k3, r1, by rw [← eu]; exact r3, r4, hlt, r6⟩, fun r M' hp => ?_⟩
        obtain ⟨hv, rfl⟩ := hp
        have er : r = aBs (aSt x.1 x.2.1 cs) 32 := bt_ext (fun j hj => by
          rw [hv j hj, bt_aBs hj (Nat.le_refl _), decide_eq_true hj, eu]
          simp)
        rw [er]
        refine ⟨fun z => ?_, fun z => ?_⟩
        · exact tw _ (by rw [if_neg (fun y => y.2 z)])
        · exact tw _ (by rw [if_pos ⟨h5', z⟩])
    · rw [if_pos h2] at hP
      exact hP
  · have h1' : cs.length % 4 = 0 := (hz _ hm).mp (Classical.not_not.mp h1)
    rw [if_pos h1'] at hP
    exact hP
set_option maxHeartbeats 4000000 in
theorem al_run_29 (g : mG) (M : mM) (P : mP) (x : aX) (dl : Nat → Int32) (a0 a1 : Int32) (cs : List Nat) (hR : RpP 29 M x dl a0 a1 cs) (hok : aOk x dl cs)
    (hP : P (some (.inl (aAl x dl cs))) M) : mRun (mSx g) (f_X2_allowed g) P (0, [some (.inr (some 29)), none, none, none, none, none], [], M) := by
  obtain ⟨⟨r1, r2, r3, r4, r5⟩, r6, r7, r8, r9, r10, r11, r12⟩ := hR
  have hlt := aOk.lt hok
  obtain ⟨k1, k2, k3, k4, k5⟩ := hok
  have e1 : aAt (M 32) 4 (M 29 8) = aHd dl cs (aTn x cs cs.length) := by rw [r2, aAt_in aTn_lt (by decide)]; exact r8 _ aTn_lt
  have e2 : M 29 7 - M 29 7 / nI 4 * nI 4 = nI (cs.length % 4) := by rw [r1]; exact nI_mod4 (by omega)
  refine v_al_29 g M P ⟨n4, ?_⟩
  rw [e1, e2]
  generalize hH : aHd dl cs (aTn x cs cs.length) = hd at *
  have hz : ∀ n : Nat, n < 4 → (nI n = 0 ↔ n = 0) := fun n hn => ⟨fun z => (nI_eq (by omega) (by decide)).mp z, fun z => by rw [z]; rfl⟩
  have hm : cs.length % 4 < 4 := Nat.mod_lt _ (by decide)
  have al : aAl x dl cs = (if cs.length % 4 = 0 then hd else if hd &&& fSuit (nI (aC cs (cs.length - cs.length % 4) / 8)) ≠ 0 then hd &&& fSuit (nI (aC cs (cs.length - cs.length % 4) / 8)) else if x.2.2.1 = 0 ∨ hd &&& fSuit x.1 = 0 then hd else if x.2.2.1 = nI 2 ∧ (hd &&& fSuit x.1) &&& aBs (aSt x.1 x.2.1 cs) 32 ≠ 0 then (hd &&& fSuit x.1) &&& aBs (aSt x.1 x.2.1 cs) 32 else hd &&& fSuit x.1) := by
    unfold aAl
    rw [hH]
  rw [al] at hP
  refine ⟨fun h1 => ?_, fun h1 => ?_⟩
  · have h1' : ¬ cs.length % 4 = 0 := fun z => h1 ((hz _ hm).mpr z)
    rw [if_neg h1'] at hP
    have hin : cs.length - cs.length % 4 < cs.length := by omega
    have hcl := hlt _ (aC_in hin)
    have e3 : aAt (M 33) 32 (M 29 7 - nI (cs.length % 4)) / nI 8 = nI (aC cs (cs.length - cs.length % 4) / 8) := by
      rw [r1, pk_sub (by omega), aAt_in (by omega) (by decide), show M 33 (cs.length - cs.length % 4) = nI (aC cs (cs.length - cs.length % 4)) from r6 _ hin]
      exact nI_div8 (by omega)
    refine ⟨n8, ?_⟩
    rw [e3, r3, r5]
    generalize hd &&& fSuit (nI (aC cs (cs.length - cs.length % 4) / 8)) = fo at *
    refine ⟨fun h2 => ?_, fun h2 => ?_⟩
    · rw [if_neg (by simpa using h2)] at hP
      have two : ¬ hd &&& fSuit x.1 = 0 → ¬ x.2.2.1 = 0 → ∀ w, w = (if x.2.2.1 = nI 2 ∧ (hd &&& fSuit x.1) &&& aBs (aSt x.1 x.2.1 cs) 32 ≠ 0 then (hd &&& fSuit x.1) &&& aBs (aSt x.1 x.2.1 cs) 32 else hd &&& fSuit x.1) → P (some (.inl w)) M := fun z1 z2 w hw => by
        rw [if_neg (fun z => z.elim z2 z1)] at hP
        rw [hw]
        exact hP
      have one : (x.2.2.1 = 0 ∨ hd &&& fSuit x.1 = 0) → P (some (.inl hd)) M := fun z => by
        rw [if_pos z] at hP
        exact hP
      refine ⟨fun h3 => one (Or.inl h3), fun h3 => ⟨fun h4 => ?_, fun h4 => one (Or.inr (Classical.not_not.mp h4))⟩⟩
      have tw := two h4 h3
      refine ⟨fun h5 => ?_, fun h5 => ?_⟩
      · have := tw (hd &&& fSuit x.1) (by rw [if_neg (fun z => h5 z.1)])
        exact ⟨fun z => absurd z h4, fun _ => this⟩
      · have h5' := Classical.not_not.mp h5
        obtain ⟨u, hu, eu⟩ := fSuit_of h4
        refine ⟨(29, u, x.2.1, cs), ⟨rfl, rfl, hu, k1, k3, r1, by rw [← eu]; exact r3, r4, hlt, r6⟩, fun r M' hp => ?_⟩
        obtain ⟨hv, rfl⟩ := hp
        have er : r = aBs (aSt x.1 x.2.1 cs) 32 := bt_ext (fun j hj => by
          rw [hv j hj, bt_aBs hj (Nat.le_refl _), decide_eq_true hj, eu]
          simp)
        rw [er]
        refine ⟨fun z => ?_, fun z => ?_⟩
        · exact tw _ (by rw [if_neg (fun y => y.2 z)])
        · exact tw _ (by rw [if_pos ⟨h5', z⟩])
    · rw [if_pos h2] at hP
      exact hP
  · have h1' : cs.length % 4 = 0 := (hz _ hm).mp (Classical.not_not.mp h1)
    rw [if_pos h1'] at hP
    exact hP
theorem run_X2_allowed : mRunOf 6 t_X2_allowed f_X2_allowed := fun g as M P hT => by
  obtain ⟨⟨c, x, dl, a0, a1, cs⟩, ⟨h1, rfl, h3, h4⟩, hP⟩ := hT
  refine ⟨Nat.le_of_ble_eq_true rfl, ?_⟩
  dsimp only at h1 h3 h4
  rcases pl_two h1 with rfl | rfl
  · exact al_run_16 g M P x dl a0 a1 cs h3 h4 (hP _ _ ⟨rfl, rfl⟩)
  · exact al_run_29 g M P x dl a0 a1 cs h3 h4 (hP _ _ ⟨rfl, rfl⟩)
theorem ok_X2_allowed : mOK yX2_allowed cX2_allowed 6 (some .int) 3 t_X2_allowed := mOK.of f_X2_allowed (by decide) (fun _ => rfl) (fun g => mCodeOK kk_X2_allowed) (fun g => mFldL fk_RX2 rfl) (fun g idx v h => by cases h) (fun g idx v h => by cases h) (mCalL (l := l_X2_allowed) (List.forall_mem_cons.mpr ⟨mSite.SN (idx := 56) ok_X7_at (by decide) (by decide) wc_X7_at wm_RX2_56 wt_X7_at wn_RX7 wd_X7_at, List.forall_mem_cons.mpr ⟨mSite.SN (idx := 83) ok_X7_bitsOfSuit (by decide) (by decide) wc_X7_bitsOfSuit wm_RX2_83 wt_X7_bitsOfSuit wn_RX7 wd_X7_bitsOfSuit, List.forall_mem_cons.mpr ⟨mSite.V (idx := 86) ok_X2_strongerTrumps (by decide) (by decide) rv_X2_strongerTrumps wc_X2_strongerTrumps wk_RX2_86 wi_X2_strongerTrumps wl_X2_strongerTrumps wn_RX2 wd_X2_strongerTrumps, fun _ h => absurd h List.not_mem_nil⟩⟩⟩) (fun _ => rfl)) run_X2_allowed

