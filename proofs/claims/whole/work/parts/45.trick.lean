/-! ===== CLASS TrickHouse: hand, trick ===== -/
theorem nI_at2 {n k : Nat} (h : n ≤ 2) (hk : k ≤ 2) : nI n = nI k ↔ n = k := nI_eq (by omega) (by omega)
/-- in the play -/
theorem tInv.play {T : aT} (h : tInv T) (k : T.1.1 = 2) : aOkS T.2.2.1 ∧ T.2.2.1.2.2.2.2.length < 32 ∧ T.2.2.1.2.2.1 = 0 ∧ T.2.2.1.2.2.2.1 = 0 := by
  obtain ⟨n, t, q, d, -, -, -, -, -, -, -, c5, c6, c7, c8⟩ := h.2.2.2.1 k
  exact ⟨c7, c8, c5, c6⟩
def pMay (T : aT) (j : Nat) : Int32 := if T.1.1 = 2 ∧ aTn T.2.2.1.1 T.2.2.1.2.2.2.2 T.2.2.1.2.2.2.2.length = j then aAl T.2.2.1.1 T.2.2.1.2.1 T.2.2.1.2.2.2.2 else 0
def F_hand (z : aZ) (as : List Int32) : Int32 × aZ := (match as with
  | [p, w] => match ix p 4 with
    | none => -2
    | some j => match ix w 3 with
      | none => -2
      | some k => if k = 0 then aHd (zT z.2.1).2.2.1.2.1 (zT z.2.1).2.2.1.2.2.2.2 j else if k = 1 then (zT z.2.1).2.2.1.2.1 j else pMay (zT z.2.1) j
  | _ => 0, z)
abbrev t_X7_hand : mG → mT := pub 2 F_hand
theorem mo_X7_hand : mMn t_X7_hand := pub_mono
theorem rv_X7_hand : mHasR yX7_hand 2 t_X7_hand := pub_recv rfl
def k_X7_hand : List (Nat × mI) := [(0, .iload_n 1, 1, 1, 0, []),
  (1, .ifCond .lt 17, 3, 18, 0, []),
  (4, .iload_n 1, 1, 1, 0, []),
  (5, .iconst 4, 1, 0, nI 4, []),
  (6, .if_icmp .ge 12, 3, 18, 0, []),
  (9, .iload_n 2, 1, 2, 0, []),
  (10, .ifCond .lt 8, 3, 18, 0, []),
  (13, .iload_n 2, 1, 2, 0, []),
  (14, .iconst 2, 1, 0, nI 2, []),
  (15, .if_icmp .le 6, 3, 21, 0, []),
  (18, .bipush (-2), 2, 0, -2, []),
  (20, .ireturn, 1, 0, 0, []),
  (21, .iload_n 2, 1, 2, 0, []),
  (22, .ifCond .ne 18, 3, 40, 0, []),
  (25, .aload_n 0, 1, 0, 0, []),
  (26, .getfield 29, 3, 0, 0, []),
  (29, .getfield 134, 3, 0, 0, []),
  (32, .getfield 138, 3, 0, 0, []),
  (35, .iload_n 1, 1, 1, 0, []),
  (36, .invokestatic 107, 3, 0, 0, []),
  (39, .ireturn, 1, 0, 0, []),
  (40, .iload_n 2, 1, 2, 0, []),
  (41, .iconst 1, 1, 0, nI 1, []),
  (42, .if_icmp .ne 18, 3, 60, 0, []),
  (45, .aload_n 0, 1, 0, 0, []),
  (46, .getfield 29, 3, 0, 0, []),
  (49, .getfield 134, 3, 0, 0, []),
  (52, .getfield 143, 3, 0, 0, []),
  (55, .iload_n 1, 1, 1, 0, []),
  (56, .invokestatic 107, 3, 0, 0, []),
  (59, .ireturn, 1, 0, 0, []),
  (60, .aload_n 0, 1, 0, 0, []),
  (61, .getfield 29, 3, 0, 0, []),
  (64, .getfield 146, 3, 0, 0, []),
  (67, .iconst 2, 1, 0, nI 2, []),
  (68, .if_icmp .ne 30, 3, 98, 0, []),
  (71, .aload_n 0, 1, 0, 0, []),
  (72, .getfield 29, 3, 0, 0, []),
  (75, .getfield 134, 3, 0, 0, []),
  (78, .getfield 149, 3, 0, 0, []),
  (81, .iload_n 1, 1, 1, 0, []),
  (82, .if_icmp .ne 16, 3, 98, 0, []),
  (85, .aload_n 0, 1, 0, 0, []),
  (86, .getfield 29, 3, 0, 0, []),
  (89, .getfield 134, 3, 0, 0, []),
  (92, .invokevirtual 152, 3, 0, 0, []),
  (95, .goto 4, 3, 99, 0, []),
  (98, .iconst 0, 1, 0, nI 0, []),
  (99, .ireturn, 1, 0, 0, [])]
theorem kk_X7_hand : (k_X7_hand.all fun e => mChk cX7_hand e.1 e.2) = true := by decide +kernel
def l_X7_hand : List (Nat × Nat × (mG → mT)) := [(3 * 107 + 1, 2, t_X7_at), (3 * 152, 0 + 1, t_X2_allowed)]
def f_X7_hand (g : mG) : mF := (mLk k_X7_hand, mLk fl_RX7, mLk (l_X7_hand.map fun e => (e.1, e.2.1, e.2.2 g)), mLk ([] : List (Nat × mV)), mLk ([] : List (Nat × mV)), some .int)
theorem m_X7_hand (g : mG) : mMono (f_X7_hand g) := mMonoL (g := g) (l := l_X7_hand) (List.forall_mem_cons.mpr ⟨mo_X7_at, List.forall_mem_cons.mpr ⟨mo_X2_allowed, fun _ h => absurd h List.not_mem_nil⟩⟩) rfl

theorem v_hand (g : mG) (M : mM) (P : mP) (x y : Int32)
    (h : (x < 0 → P (some (.inl (-2))) M) ∧ (¬ (x < 0) → ((nI 4) ≤ x → P (some (.inl (-2))) M) ∧ (¬ ((nI 4) ≤ x) → (y < 0 → P (some (.inl (-2))) M) ∧ (¬ (y < 0) → (y ≤ (nI 2) → (¬ y = 0 → (¬ y = (nI 1) → (¬ (M 13 3) = (nI 2) → P (some (.inl (nI 0))) M) ∧ (¬ (¬ (M 13 3) = (nI 2)) → (¬ (M 16 8) = x → P (some (.inl (nI 0))) M) ∧ (¬ (¬ (M 16 8) = x) → ∃ x9 : Nat × aP, pre_X2_allowed x9 [.inr (some 16)] M ∧ ∀ (r11 : Int32) (M10 : mM), post_X2_allowed x9 [.inr (some 16)] M r11 M10 → (P (some (.inl r11)) M10)))) ∧ (¬ (¬ y = (nI 1)) → P (some (.inl (aAt (M 18) 4 x))) M)) ∧ (¬ (¬ y = 0) → P (some (.inl (aAt (M 19) 4 x))) M)) ∧ (¬ (y ≤ (nI 2)) → P (some (.inl (-2))) M))))) :
    mRun (mSx g) (f_X7_hand g) P (0, [some (.inr (some 0)), some (.inl x), some (.inl y)], [], M) := mRun.vc (m_X7_hand g) [] 32 h

theorem run_X7_hand : mRunOf 3 t_X7_hand f_X7_hand := runC2 (by decide) (fun g M P z x y hR hI hP => by
  have hT := hI.T
  have hR4 := hR.2.2.2.1
  obtain ⟨⟨r3, -⟩, -, hp, -⟩ := hR4
  have hp' := hp
  obtain ⟨⟨-, p8, -⟩, -, p2, p3, -⟩ := hp
  have p8' : M 16 8 = nI (aTn (zT z.2.1).2.2.1.1 (zT z.2.1).2.2.1.2.2.2.2 (zT z.2.1).2.2.1.2.2.2.2.length) := p8
  have hQ : ∀ v, v = (F_hand z [x, y]).1 → P (some (.inl v)) M := fun v e => hP v M e hR FrC.refl
  refine v_hand g M P x y ?_
  rw [r3, p8']
  rcases ix_cs x (n := 4) (by decide) with ⟨hx, e1⟩ | ⟨j, hj, rfl, e1⟩
  · rw [show (F_hand z [x, y]).1 = -2 by simp only [F_hand, e1]] at hQ
    refine ⟨fun _ => hQ _ rfl, fun h1 => ⟨fun _ => hQ _ rfl, fun h2 => absurd (hx.resolve_left h1) h2⟩⟩
  refine ⟨fun h => absurd h (nI_pos (by omega)), fun _ => ⟨fun h => absurd h (nI_ge (by omega) (by decide)), fun _ => ?_⟩⟩
  rcases ix_cs y (n := 3) (by decide) with ⟨hx, e2⟩ | ⟨k, hk, rfl, e2⟩
  · rw [show (F_hand z [nI j, y]).1 = -2 by simp only [F_hand, e1, e2]] at hQ
    refine ⟨fun _ => hQ _ rfl, fun h1 => ⟨fun h2 => ?_, fun _ => hQ _ rfl⟩⟩
    exfalso
    simp (disch := omega) only [fa_lt, fa_le, nI_toInt, Int32.toInt_zero] at hx h1 h2
    omega
  rw [show (F_hand z [nI j, nI k]).1 = if k = 0 then aHd (zT z.2.1).2.2.1.2.1 (zT z.2.1).2.2.1.2.2.2.2 j else if k = 1 then (zT z.2.1).2.2.1.2.1 j else pMay (zT z.2.1) j by simp only [F_hand, e1, e2]] at hQ
  refine ⟨fun h => absurd h (nI_pos (by omega)), fun _ => ⟨fun _ => ?_, fun h => absurd (nI_le (by omega) (by decide)) h⟩⟩
  rw [aAt_in hj (by decide), aAt_in hj (by decide)]
  rcases (by omega : k = 0 ∨ k = 1 ∨ k = 2) with rfl | rfl | rfl
  · exact ⟨fun h => absurd rfl h, fun _ => hQ _ (p3 j hj)⟩
  · exact ⟨fun _ => ⟨fun h => absurd rfl h, fun _ => hQ _ (p2 j hj)⟩, fun h => absurd (by decide) h⟩
  · refine ⟨fun _ => ⟨fun _ => ?_, fun h => absurd (by decide) h⟩, fun h => absurd (by decide) h⟩
    have hph := hT.1.1
    have hc : (if (2 : Nat) = 0 then aHd (zT z.2.1).2.2.1.2.1 (zT z.2.1).2.2.1.2.2.2.2 j else if (2 : Nat) = 1 then (zT z.2.1).2.2.1.2.1 j else pMay (zT z.2.1) j) = pMay (zT z.2.1) j := rfl
    rw [hc] at hQ
    have ht4 := aTn_lt (x := (zT z.2.1).2.2.1.1) (cs := (zT z.2.1).2.2.1.2.2.2.2) (j := (zT z.2.1).2.2.1.2.2.2.2.length)
    refine ⟨fun h => ?_, fun h => ⟨fun h2 => ?_, fun h2 => ?_⟩⟩
    · rw [show pMay (zT z.2.1) j = 0 from if_neg (fun w => h (by rw [w.1]))] at hQ
      exact hQ _ rfl
    · rw [show pMay (zT z.2.1) j = 0 from if_neg (fun w => h2 (by rw [w.2]))] at hQ
      exact hQ _ rfl
    · have h' := (nI_at2 hph (by decide)).mp (Classical.not_not.mp h)
      have h2' := (nI_eq (by omega) (by omega)).mp (Classical.not_not.mp h2)
      rw [show pMay (zT z.2.1) j = aAl (zT z.2.1).2.2.1.1 (zT z.2.1).2.2.1.2.1 (zT z.2.1).2.2.1.2.2.2.2 from if_pos ⟨h', h2'⟩] at hQ
      refine ⟨(16, (zT z.2.1).2.2.1), ⟨rfl, rfl, hp', (hT.play h').1⟩, fun r M2 hr => ?_⟩
      obtain ⟨rfl, rfl⟩ := hr
      exact hQ _ rfl)

theorem ok_X7_hand : mOK yX7_hand cX7_hand 3 (some .int) 4 t_X7_hand := mOK.of f_X7_hand (by decide) (fun _ => rfl) (fun g => mCodeOK kk_X7_hand) (fun g => mFldL fk_RX7 rfl) (fun g idx v h => by cases h) (fun g idx v h => by cases h) (mCalL (l := l_X7_hand) (List.forall_mem_cons.mpr ⟨mSite.S (idx := 107) ok_X7_at (by decide) (by decide) wc_X7_at wk_RX7_107 wt_X7_at wn_RX7 wd_X7_at, List.forall_mem_cons.mpr ⟨mSite.V (idx := 152) ok_X2_allowed (by decide) (by decide) rv_X2_allowed wc_X2_allowed wk_RX7_152 wi_X2_allowed wl_X2_allowed wn_RX2 wd_X2_allowed, fun _ h => absurd h List.not_mem_nil⟩⟩) (fun _ => rfl)) run_X7_hand

def aTrk (T : aT) (i k : Nat) : Int32 :=
  if ¬ 4 * i < T.2.2.1.2.2.2.2.length ∧ ¬ (T.1.1 = 2 ∧ T.2.2.1.2.2.2.2.length / 4 = i) then -12
  else if k = 0 then (if 4 * i < T.2.2.1.2.2.2.2.length then nI (aLd T.2.2.1.1 T.2.2.1.2.2.2.2 i) else nI (aTn T.2.2.1.1 T.2.2.1.2.2.2.2 T.2.2.1.2.2.2.2.length))
  else if k = 5 then (if i < T.2.2.1.2.2.2.2.length / 4 then nI (aLd T.2.2.1.1 T.2.2.1.2.2.2.2 (i + 1)) else -1)
  else if k = 6 then (if 4 * i < T.2.2.1.2.2.2.2.length then nI (aC T.2.2.1.2.2.2.2 (4 * i) / 8) else -1)
  else if 4 * i + (k - 1) < T.2.2.1.2.2.2.2.length then nI (aC T.2.2.1.2.2.2.2 (4 * i + (k - 1))) else -1
def F_trick (z : aZ) (as : List Int32) : Int32 × aZ := (match as with
  | [i, w] => match ix w 7 with
    | none => -2
    | some k => match ix i 8 with
      | none => -12
      | some i => aTrk (zT z.2.1) i k
  | _ => 0, z)
abbrev t_X7_trick : mG → mT := pub 2 F_trick
theorem mo_X7_trick : mMn t_X7_trick := pub_mono
theorem rv_X7_trick : mHasR yX7_trick 2 t_X7_trick := pub_recv rfl
def k_X7_trick : List (Nat × mI) := [(0, .iload_n 2, 1, 2, 0, []),
  (1, .ifCond .lt 9, 3, 10, 0, []),
  (4, .iload_n 2, 1, 2, 0, []),
  (5, .bipush 6, 2, 0, nI 6, []),
  (7, .if_icmp .le 6, 3, 13, 0, []),
  (10, .bipush (-2), 2, 0, -2, []),
  (12, .ireturn, 1, 0, 0, []),
  (13, .iload_n 1, 1, 1, 0, []),
  (14, .ifCond .lt 9, 3, 23, 0, []),
  (17, .iload_n 1, 1, 1, 0, []),
  (18, .bipush 8, 2, 0, nI 8, []),
  (20, .if_icmp .lt 6, 3, 26, 0, []),
  (23, .bipush (-12), 2, 0, -12, []),
  (25, .ireturn, 1, 0, 0, []),
  (26, .aload_n 0, 1, 0, 0, []),
  (27, .getfield 29, 3, 0, 0, []),
  (30, .getfield 134, 3, 0, 0, []),
  (33, .getfield 155, 3, 0, 0, []),
  (36, .iconst 4, 1, 0, nI 4, []),
  (37, .iload_n 1, 1, 1, 0, []),
  (38, .imul, 1, 0, 0, []),
  (39, .if_icmp .le 7, 3, 46, 0, []),
  (42, .iconst 1, 1, 0, nI 1, []),
  (43, .goto 4, 3, 47, 0, []),
  (46, .iconst 0, 1, 0, nI 0, []),
  (47, .istore_n 3, 1, 3, 0, []),
  (48, .aload_n 0, 1, 0, 0, []),
  (49, .getfield 29, 3, 0, 0, []),
  (52, .getfield 146, 3, 0, 0, []),
  (55, .iconst 2, 1, 0, nI 2, []),
  (56, .if_icmp .ne 21, 3, 77, 0, []),
  (59, .aload_n 0, 1, 0, 0, []),
  (60, .getfield 29, 3, 0, 0, []),
  (63, .getfield 134, 3, 0, 0, []),
  (66, .invokevirtual 156, 3, 0, 0, []),
  (69, .iload_n 1, 1, 1, 0, []),
  (70, .if_icmp .ne 7, 3, 77, 0, []),
  (73, .iconst 1, 1, 0, nI 1, []),
  (74, .goto 4, 3, 78, 0, []),
  (77, .iconst 0, 1, 0, nI 0, []),
  (78, .istore 4, 2, 4, 0, []),
  (80, .iload_n 3, 1, 3, 0, []),
  (81, .ifCond .ne 11, 3, 92, 0, []),
  (84, .iload 4, 2, 4, 0, []),
  (86, .ifCond .ne 6, 3, 92, 0, []),
  (89, .bipush (-12), 2, 0, -12, []),
  (91, .ireturn, 1, 0, 0, []),
  (92, .iload_n 2, 1, 2, 0, []),
  (93, .lookupswitch 128 #[(0, 35), (5, 67), (6, 100)], 35, 221, 0, [(nI 0, 128), (nI 5, 160), (nI 6, 193)]),
  (128, .iload_n 3, 1, 3, 0, []),
  (129, .ifCond .eq 20, 3, 149, 0, []),
  (132, .aload_n 0, 1, 0, 0, []),
  (133, .getfield 29, 3, 0, 0, []),
  (136, .getfield 134, 3, 0, 0, []),
  (139, .getfield 159, 3, 0, 0, []),
  (142, .iload_n 1, 1, 1, 0, []),
  (143, .invokestatic 107, 3, 0, 0, []),
  (146, .goto 13, 3, 159, 0, []),
  (149, .aload_n 0, 1, 0, 0, []),
  (150, .getfield 29, 3, 0, 0, []),
  (153, .getfield 134, 3, 0, 0, []),
  (156, .getfield 149, 3, 0, 0, []),
  (159, .ireturn, 1, 0, 0, []),
  (160, .iload_n 1, 1, 1, 0, []),
  (161, .aload_n 0, 1, 0, 0, []),
  (162, .getfield 29, 3, 0, 0, []),
  (165, .getfield 134, 3, 0, 0, []),
  (168, .invokevirtual 156, 3, 0, 0, []),
  (171, .if_icmp .ge 20, 3, 191, 0, []),
  (174, .aload_n 0, 1, 0, 0, []),
  (175, .getfield 29, 3, 0, 0, []),
  (178, .getfield 134, 3, 0, 0, []),
  (181, .getfield 162, 3, 0, 0, []),
  (184, .iload_n 1, 1, 1, 0, []),
  (185, .invokestatic 107, 3, 0, 0, []),
  (188, .goto 4, 3, 192, 0, []),
  (191, .iconst (-1), 1, 0, -1, []),
  (192, .ireturn, 1, 0, 0, []),
  (193, .iload_n 3, 1, 3, 0, []),
  (194, .ifCond .eq 25, 3, 219, 0, []),
  (197, .aload_n 0, 1, 0, 0, []),
  (198, .getfield 29, 3, 0, 0, []),
  (201, .getfield 134, 3, 0, 0, []),
  (204, .getfield 165, 3, 0, 0, []),
  (207, .iconst 4, 1, 0, nI 4, []),
  (208, .iload_n 1, 1, 1, 0, []),
  (209, .imul, 1, 0, 0, []),
  (210, .invokestatic 107, 3, 0, 0, []),
  (213, .bipush 8, 2, 0, nI 8, []),
  (215, .idiv, 1, 0, 0, []),
  (216, .goto 4, 3, 220, 0, []),
  (219, .iconst (-1), 1, 0, -1, []),
  (220, .ireturn, 1, 0, 0, []),
  (221, .aload_n 0, 1, 0, 0, []),
  (222, .getfield 29, 3, 0, 0, []),
  (225, .getfield 134, 3, 0, 0, []),
  (228, .iconst 4, 1, 0, nI 4, []),
  (229, .iload_n 1, 1, 1, 0, []),
  (230, .imul, 1, 0, 0, []),
  (231, .iload_n 2, 1, 2, 0, []),
  (232, .iadd, 1, 0, 0, []),
  (233, .iconst 1, 1, 0, nI 1, []),
  (234, .isub, 1, 0, 0, []),
  (235, .invokevirtual 168, 3, 0, 0, []),
  (238, .ireturn, 1, 0, 0, [])]
theorem kk_X7_trick : (k_X7_trick.all fun e => mChk cX7_trick e.1 e.2) = true := by decide +kernel
def l_X7_trick : List (Nat × Nat × (mG → mT)) := [(3 * 156, 0 + 1, t_X2_full), (3 * 107 + 1, 2, t_X7_at), (3 * 168, 1 + 1, t_X2_cardAt)]
def f_X7_trick (g : mG) : mF := (mLk k_X7_trick, mLk fl_RX7, mLk (l_X7_trick.map fun e => (e.1, e.2.1, e.2.2 g)), mLk ([] : List (Nat × mV)), mLk ([] : List (Nat × mV)), some .int)
theorem m_X7_trick (g : mG) : mMono (f_X7_trick g) := mMonoL (g := g) (l := l_X7_trick) (List.forall_mem_cons.mpr ⟨mo_X2_full, List.forall_mem_cons.mpr ⟨mo_X7_at, List.forall_mem_cons.mpr ⟨mo_X2_cardAt, fun _ h => absurd h List.not_mem_nil⟩⟩⟩) rfl

theorem v_trick_0 (g : mG) (M : mM) (P : mP) (x y : Int32)
    (h : (y < 0 → P (some (.inl (-2))) M) ∧ (¬ (y < 0) → (y ≤ (nI 6) → (x < 0 → P (some (.inl (-12))) M) ∧ (¬ (x < 0) → (x < (nI 8) → ((M 16 7) ≤ ((nI 4) * x) → mRun (mSx g) (f_X7_trick g) P (47, [some (.inr (some 0)), some (.inl x), some (.inl y), none, none], [.inl (nI 0)], M)) ∧ (¬ ((M 16 7) ≤ ((nI 4) * x)) → mRun (mSx g) (f_X7_trick g) P (47, [some (.inr (some 0)), some (.inl x), some (.inl y), none, none], [.inl (nI 1)], M))) ∧ (¬ (x < (nI 8)) → P (some (.inl (-12))) M))) ∧ (¬ (y ≤ (nI 6)) → P (some (.inl (-2))) M))) :
    mRun (mSx g) (f_X7_trick g) P (0, [some (.inr (some 0)), some (.inl x), some (.inl y), none, none], [], M) := mRun.vc (m_X7_trick g) [47] 21 h

theorem v_trick_47 (g : mG) (M : mM) (P : mP) (x y b : Int32)
    (h : (¬ (M 13 3) = (nI 2) → mRun (mSx g) (f_X7_trick g) P (78, [some (.inr (some 0)), some (.inl x), some (.inl y), some (.inl b), none], [.inl (nI 0)], M)) ∧ (¬ (¬ (M 13 3) = (nI 2)) → ¬ (nI 4) = 0 ∧ (((¬ ((M 16 7) / (nI 4)) = x → mRun (mSx g) (f_X7_trick g) P (78, [some (.inr (some 0)), some (.inl x), some (.inl y), some (.inl b), none], [.inl (nI 0)], M)) ∧ (¬ (¬ ((M 16 7) / (nI 4)) = x) → mRun (mSx g) (f_X7_trick g) P (78, [some (.inr (some 0)), some (.inl x), some (.inl y), some (.inl b), none], [.inl (nI 1)], M)))))) :
    mRun (mSx g) (f_X7_trick g) P (47, [some (.inr (some 0)), some (.inl x), some (.inl y), none, none], [.inl b], M) := mRun.vc (m_X7_trick g) [78] 15 h

theorem v_trick_78 (g : mG) (M : mM) (P : mP) (x y b e : Int32)
    (h : (¬ b = 0 → (y = (nI 0) → (b = 0 → P (some (.inl (M 16 8))) M) ∧ (¬ (b = 0) → P (some (.inl (aAt (M 21) 8 x))) M)) ∧ (¬ y = (nI 0) → (y = (nI 5) → ¬ (nI 4) = 0 ∧ (((((M 16 7) / (nI 4)) ≤ x → P (some (.inl (-1))) M) ∧ (¬ (((M 16 7) / (nI 4)) ≤ x) → P (some (.inl (aAt (M 22) 8 x))) M)))) ∧ (¬ y = (nI 5) → (y = (nI 6) → (b = 0 → P (some (.inl (-1))) M) ∧ (¬ (b = 0) → ¬ (nI 8) = 0 ∧ (P (some (.inl ((aAt (M 20) 32 ((nI 4) * x)) / (nI 8)))) M))) ∧ (¬ y = (nI 6) → ((M 16 7) ≤ ((((nI 4) * x) + y) - (nI 1)) → (P (some (.inl (-1))) M)) ∧ (¬ ((M 16 7) ≤ ((((nI 4) * x) + y) - (nI 1))) → (P (some (.inl (aAt (M 20) 32 ((((nI 4) * x) + y) - (nI 1))))) M)))))) ∧ (¬ (¬ b = 0) → (¬ e = 0 → (y = (nI 0) → (b = 0 → P (some (.inl (M 16 8))) M) ∧ (¬ (b = 0) → P (some (.inl (aAt (M 21) 8 x))) M)) ∧ (¬ y = (nI 0) → (y = (nI 5) → ¬ (nI 4) = 0 ∧ (((((M 16 7) / (nI 4)) ≤ x → P (some (.inl (-1))) M) ∧ (¬ (((M 16 7) / (nI 4)) ≤ x) → P (some (.inl (aAt (M 22) 8 x))) M)))) ∧ (¬ y = (nI 5) → (y = (nI 6) → (b = 0 → P (some (.inl (-1))) M) ∧ (¬ (b = 0) → ¬ (nI 8) = 0 ∧ (P (some (.inl ((aAt (M 20) 32 ((nI 4) * x)) / (nI 8)))) M))) ∧ (¬ y = (nI 6) → ((M 16 7) ≤ ((((nI 4) * x) + y) - (nI 1)) → (P (some (.inl (-1))) M)) ∧ (¬ ((M 16 7) ≤ ((((nI 4) * x) + y) - (nI 1))) → (P (some (.inl (aAt (M 20) 32 ((((nI 4) * x) + y) - (nI 1))))) M)))))) ∧ (¬ (¬ e = 0) → P (some (.inl (-12))) M))) :
    mRun (mSx g) (f_X7_trick g) P (78, [some (.inr (some 0)), some (.inl x), some (.inl y), some (.inl b), none], [.inl e], M) := mRun.vc (m_X7_trick g) [] 21 h

set_option maxHeartbeats 1000000 in
theorem run_X7_trick : mRunOf 5 t_X7_trick f_X7_trick := runC2 (by decide) (fun g M P z x y hR hI hP => by
  have hT := hI.T
  obtain ⟨⟨r3, -⟩, -, hp, -⟩ := hR.2.2.2.1
  have hlen := hT.len
  have hlt : ∀ c ∈ (zT z.2.1).2.2.1.2.2.2.2, c < 32 := by
    rcases hT.2.2.2.2.1 with h | h
    · rw [h]
      exact fun c hc => absurd hc List.not_mem_nil
    · exact aOk.lt h
  have hph := hT.1.1
  have hQ : ∀ v, v = (F_trick z [x, y]).1 → P (some (.inl v)) M := fun v e => hP v M e hR FrC.refl
  refine v_trick_0 g M P x y ?_
  rcases ix_cs y (n := 7) (by decide) with ⟨hx, e1⟩ | ⟨k, hk, rfl, e1⟩
  · rw [show (F_trick z [x, y]).1 = -2 by simp only [F_trick, e1]] at hQ
    refine ⟨fun _ => hQ _ rfl, fun h1 => ⟨fun h2 => ?_, fun _ => hQ _ rfl⟩⟩
    exfalso
    simp (disch := omega) only [fa_lt, fa_le, nI_toInt, Int32.toInt_zero] at hx h1 h2
    omega
  refine ⟨fun h => absurd h (nI_pos (by omega)), fun _ => ⟨fun _ => ?_, fun h => absurd (nI_le (by omega) (by decide)) h⟩⟩
  rcases ix_cs x (n := 8) (by decide) with ⟨hx, e2⟩ | ⟨i, hi, rfl, e2⟩
  · rw [show (F_trick z [x, nI k]).1 = -12 by simp only [F_trick, e1, e2]] at hQ
    refine ⟨fun _ => hQ _ rfl, fun h1 => ⟨fun h2 => absurd h2 (Int32.not_lt.mpr (hx.resolve_left h1)), fun _ => hQ _ rfl⟩⟩
  refine ⟨fun h => absurd h (nI_pos (by omega)), fun _ => ⟨fun _ => ?_, fun h => absurd (nI_lt (by omega) (by decide)) h⟩⟩
  rw [show (F_trick z [nI i, nI k]).1 = aTrk (zT z.2.1) i k by simp only [F_trick, e1, e2]] at hQ
  generalize zT z.2.1 = T at *
  obtain ⟨⟨p7, p8, -⟩, p4, -, -, p5, p6, -, -⟩ := hp
  have p7' : M 16 7 = nI T.2.2.1.2.2.2.2.length := p7
  have p8' : M 16 8 = nI (aTn T.2.2.1.1 T.2.2.1.2.2.2.2 T.2.2.1.2.2.2.2.length) := p8
  have hO : (T.1.1 = 2 ∧ T.2.2.1.2.2.2.2.length / 4 = i) ∨ ¬ (T.1.1 = 2 ∧ T.2.2.1.2.2.2.2.length / 4 = i) := Classical.em _
  have K78 : ∀ b e : Int32, b = mb (4 * i < T.2.2.1.2.2.2.2.length) → e = mb (T.1.1 = 2 ∧ T.2.2.1.2.2.2.2.length / 4 = i) → mRun (mSx g) (f_X7_trick g) P (78, [some (.inr (some 0)), some (.inl (nI i)), some (.inl (nI k)), some (.inl b), none], [.inl e], M) := fun b e hb he => by
    refine v_trick_78 g M P _ _ _ _ ?_
    have k0 : ∀ c, c < 7 → (nI k = nI c ↔ k = c) := fun c hc => nI_eq (by omega) (by omega)
    rw [hb, he, k0 0 (by decide), k0 5 (by decide), k0 6 (by decide), p7', p8', nI_div4 (by omega)]
    have hmain : ¬ (¬ 4 * i < T.2.2.1.2.2.2.2.length ∧ ¬ (T.1.1 = 2 ∧ T.2.2.1.2.2.2.2.length / 4 = i)) → (k = 0 → (mb (4 * i < T.2.2.1.2.2.2.2.length) = 0 → P (some (.inl (nI (aTn T.2.2.1.1 T.2.2.1.2.2.2.2 T.2.2.1.2.2.2.2.length)))) M) ∧ (¬ mb (4 * i < T.2.2.1.2.2.2.2.length) = 0 → P (some (.inl (aAt (M 21) 8 (nI i)))) M)) ∧ (¬ k = 0 → (k = 5 → ¬ nI 4 = 0 ∧ ((nI (T.2.2.1.2.2.2.2.length / 4) ≤ nI i → P (some (.inl (-1))) M) ∧ (¬ nI (T.2.2.1.2.2.2.2.length / 4) ≤ nI i → P (some (.inl (aAt (M 22) 8 (nI i)))) M))) ∧ (¬ k = 5 → (k = 6 → (mb (4 * i < T.2.2.1.2.2.2.2.length) = 0 → P (some (.inl (-1))) M) ∧ (¬ mb (4 * i < T.2.2.1.2.2.2.2.length) = 0 → ¬ nI 8 = 0 ∧ P (some (.inl (aAt (M 20) 32 (nI 4 * nI i) / nI 8))) M)) ∧ (¬ k = 6 → (nI T.2.2.1.2.2.2.2.length ≤ nI 4 * nI i + nI k - nI 1 → P (some (.inl (-1))) M) ∧ (¬ nI T.2.2.1.2.2.2.2.length ≤ nI 4 * nI i + nI k - nI 1 → P (some (.inl (aAt (M 20) 32 (nI 4 * nI i + nI k - nI 1)))) M)))) := by
      intro hg
      unfold aTrk at hQ
      rw [if_neg hg] at hQ
      rw [mb_0]
      refine ⟨fun h0 => ?_, fun h0 => ⟨fun h5 => ?_, fun h5 => ⟨fun h6 => ?_, fun h6 => ?_⟩⟩⟩
      · rw [if_pos h0] at hQ
        refine ⟨fun hb => hQ _ (by rw [if_neg hb]), fun hb => hQ _ ?_⟩
        rw [if_pos (Classical.not_not.mp hb), aAt_in hi (by decide)]
        exact p5 i (Classical.not_not.mp hb)
      · rw [if_neg h0, if_pos h5] at hQ
        refine ⟨n4, fun hb => hQ _ ?_, fun hb => hQ _ ?_⟩
        · rw [if_neg (fun w => absurd hb (nI_ge w (by omega)))]
        · have w : i < T.2.2.1.2.2.2.2.length / 4 := Nat.lt_of_not_le (fun w => hb (nI_le w (by omega)))
          rw [if_pos w, aAt_in hi (by decide)]
          exact p6 i (by omega)
      · rw [if_neg h0, if_neg h5, if_pos h6] at hQ
        refine ⟨fun hb => hQ _ (by rw [if_neg hb]), fun hb => ⟨n8, hQ _ ?_⟩⟩
        have hb' := Classical.not_not.mp hb
        rw [if_pos hb', pk_mul, aAt_in (by omega) (by decide), show M 20 (4 * i) = _ from p4 _ hb', nI_div8 (by have := hlt _ (aC_in hb'); omega)]
      · rw [if_neg h0, if_neg h5, if_neg h6] at hQ
        rw [pk_mul, nI_add, pk_sub (by omega), show 4 * i + k - 1 = 4 * i + (k - 1) by omega]
        refine ⟨fun hb => hQ _ ?_, fun hb => hQ _ ?_⟩
        · rw [if_neg (fun w => absurd hb (nI_ge w (by omega)))]
        · have w : 4 * i + (k - 1) < T.2.2.1.2.2.2.2.length := Nat.lt_of_not_le (fun w => hb (nI_le w (by omega)))
          rw [if_pos w, aAt_in (by omega) (by decide)]
          exact p4 _ w
    refine ⟨fun h => hmain (fun w => h (mb_f w.1)), fun h => ⟨fun h2 => hmain (fun w => h2 (mb_f w.2)), fun h2 => hQ _ ?_⟩⟩
    exact (if_pos ⟨mb_0.mp (Classical.not_not.mp h), mb_0.mp (Classical.not_not.mp h2)⟩ : aTrk T i k = -12).symm
  have K47 : ∀ b : Int32, b = mb (4 * i < T.2.2.1.2.2.2.2.length) → mRun (mSx g) (f_X7_trick g) P (47, [some (.inr (some 0)), some (.inl (nI i)), some (.inl (nI k)), none, none], [.inl b], M) := fun b hb => by
    refine v_trick_47 g M P _ _ _ ?_
    rw [r3, p7', nI_div4 (by omega)]
    refine ⟨fun h => K78 _ _ hb (mb_f (fun w => h (by rw [w.1]))).symm, fun h => ⟨n4, fun h2 => K78 _ _ hb (mb_f (fun w => h2 (by rw [w.2]))).symm, fun h2 => K78 _ _ hb ?_⟩⟩
    refine (mb_t ⟨?_, ?_⟩).symm
    · exact (nI_at2 hph (by decide)).mp (Classical.not_not.mp h)
    · exact (nI_eq (by omega) (by omega)).mp (Classical.not_not.mp h2)
  rw [p7', pk_mul]
  refine ⟨fun h => K47 _ ?_, fun h => K47 _ ?_⟩
  · exact (mb_f (fun w => absurd h (nI_ge w (by omega)))).symm
  · exact (mb_t (Nat.lt_of_not_le (fun w => h (nI_le w (by omega))))).symm)

theorem ok_X7_trick : mOK yX7_trick cX7_trick 5 (some .int) 3 t_X7_trick := mOK.of f_X7_trick (by decide) (fun _ => rfl) (fun g => mCodeOK kk_X7_trick) (fun g => mFldL fk_RX7 rfl) (fun g idx v h => by cases h) (fun g idx v h => by cases h) (mCalL (l := l_X7_trick) (List.forall_mem_cons.mpr ⟨mSite.V (idx := 156) ok_X2_full (by decide) (by decide) rv_X2_full wc_X2_full wk_RX7_156 wi_X2_full wl_X2_full wn_RX2 wd_X2_full, List.forall_mem_cons.mpr ⟨mSite.S (idx := 107) ok_X7_at (by decide) (by decide) wc_X7_at wk_RX7_107 wt_X7_at wn_RX7 wd_X7_at, List.forall_mem_cons.mpr ⟨mSite.V (idx := 168) ok_X2_cardAt (by decide) (by decide) rv_X2_cardAt wc_X2_cardAt wk_RX7_168 wi_X2_cardAt wl_X2_cardAt wn_RX2 wd_X2_cardAt, fun _ h => absurd h List.not_mem_nil⟩⟩⟩) (fun _ => rfl)) run_X7_trick

