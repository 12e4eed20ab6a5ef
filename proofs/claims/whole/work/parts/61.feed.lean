def F_feed (z : aZ) (as : List Int32) : Int32 × aZ := match as with
  | [n, a, b, c, d, e] => match ix (n - nI 1) 5 with
    | none => (-2, z)
    | some k => if fByte a = 0 ∨ fByte b = 0 ∨ fByte c = 0 ∨ fByte d = 0 ∨ fByte e = 0 then (-2, z) else if 40 < z.1.length + (k + 1) then (-4, z) else (nI (z.1.length + (k + 1)), z.1 ++ [a, b, c, d, e].take (k + 1), z.2)
  | _ => (0, z)
theorem ix_1 {b : Int32} {m : Nat} (hm : m < 1000) : ((b < nI 1 ∨ nI m < b) ∧ ix (b - nI 1) m = none) ∨ ∃ j, j < m ∧ b = nI (j + 1) ∧ ix (b - nI 1) m = some j := by
  rcases ix_cs (b - nI 1) (n := m) (by omega) with ⟨h, e⟩ | ⟨j, hj, h, e⟩
  · refine Or.inl ⟨?_, e⟩
    rcases pk_ix b (n := m + 1) (by omega) with h1 | h1 | ⟨i, hi, rfl⟩
    · left
      simp (disch := omega) only [fa_lt, nI_toInt, Int32.toInt_zero] at h1 ⊢
      omega
    · right
      simp (disch := omega) only [fa_lt, fa_le, nI_toInt, Int32.toInt_zero] at h1 ⊢
      omega
    · rcases Nat.lt_or_ge i 1 with hi4 | hi4
      · exact Or.inl (nI_lt hi4 (by decide))
      · rw [pk_sub hi4, ix_at (by omega) (by omega)] at e
        cases e
  · refine Or.inr ⟨j, hj, ?_, e⟩
    rw [← nI_add, ← h]
    exact (Int32.sub_add_cancel b (nI 1)).symm
theorem RpTp_add {M M' : mM} {t : List Int32} {v : Int32} (h : RpTp M t) (h1 : M' 1 1 = nI (t.length + 1)) (h2 : M' 2 = upd (M 2) t.length v) : RpTp M' (t ++ [v]) := by
  refine ⟨by rw [List.length_append, List.length_singleton]; exact h1, fun j hj => ?_⟩
  rw [List.length_append, List.length_singleton] at hj
  rw [h2, List.getD_eq_getElem?_getD]
  by_cases e : j = t.length
  · rw [e, upd_s, List.getElem?_append_right (Nat.le_refl _), Nat.sub_self]
    rfl
  · rw [upd_n e, List.getElem?_append_left (by omega), ← List.getD_eq_getElem?_getD]
    exact h.2 j (by omega)
theorem take_next {l : List Int32} {k : Nat} (h : k < l.length) : l.take (k + 1) = l.take k ++ [l.getD k 0] := by
  rw [List.take_succ, List.getD_eq_getElem?_getD, List.getElem?_eq_getElem h]
  rfl
abbrev t_X7_feed : mG → mT := pub 6 F_feed
theorem mo_X7_feed : mMn t_X7_feed := pub_mono
theorem rv_X7_feed : mHasR yX7_feed 6 t_X7_feed := pub_recv rfl
def k_X7_feed : List (Nat × mI) := [(0, .iload_n 1, 1, 1, 0, []),
  (1, .iconst 1, 1, 0, nI 1, []),
  (2, .if_icmp .lt 8, 3, 10, 0, []),
  (5, .iload_n 1, 1, 1, 0, []),
  (6, .iconst 5, 1, 0, nI 5, []),
  (7, .if_icmp .le 6, 3, 13, 0, []),
  (10, .bipush (-2), 2, 0, -2, []),
  (12, .ireturn, 1, 0, 0, []),
  (13, .iload_n 2, 1, 2, 0, []),
  (14, .invokestatic 50, 3, 0, 0, []),
  (17, .ifCond .eq 34, 3, 51, 0, []),
  (20, .iload_n 3, 1, 3, 0, []),
  (21, .invokestatic 50, 3, 0, 0, []),
  (24, .ifCond .eq 27, 3, 51, 0, []),
  (27, .iload 4, 2, 4, 0, []),
  (29, .invokestatic 50, 3, 0, 0, []),
  (32, .ifCond .eq 19, 3, 51, 0, []),
  (35, .iload 5, 2, 5, 0, []),
  (37, .invokestatic 50, 3, 0, 0, []),
  (40, .ifCond .eq 11, 3, 51, 0, []),
  (43, .iload 6, 2, 6, 0, []),
  (45, .invokestatic 50, 3, 0, 0, []),
  (48, .ifCond .ne 6, 3, 54, 0, []),
  (51, .bipush (-2), 2, 0, -2, []),
  (53, .ireturn, 1, 0, 0, []),
  (54, .aload_n 0, 1, 0, 0, []),
  (55, .getfield 10, 3, 0, 0, []),
  (58, .getfield 54, 3, 0, 0, []),
  (61, .iload_n 1, 1, 1, 0, []),
  (62, .iadd, 1, 0, 0, []),
  (63, .bipush 40, 2, 0, nI 40, []),
  (65, .if_icmp .le 6, 3, 71, 0, []),
  (68, .bipush (-4), 2, 0, -4, []),
  (70, .ireturn, 1, 0, 0, []),
  (71, .iconst 0, 1, 0, nI 0, []),
  (72, .istore 7, 2, 7, 0, []),
  (74, .iload 7, 2, 7, 0, []),
  (76, .iload_n 1, 1, 1, 0, []),
  (77, .if_icmp .ge 59, 3, 136, 0, []),
  (80, .aload_n 0, 1, 0, 0, []),
  (81, .getfield 10, 3, 0, 0, []),
  (84, .iload 7, 2, 7, 0, []),
  (86, .ifCond .ne 7, 3, 93, 0, []),
  (89, .iload_n 2, 1, 2, 0, []),
  (90, .goto 37, 3, 127, 0, []),
  (93, .iload 7, 2, 7, 0, []),
  (95, .iconst 1, 1, 0, nI 1, []),
  (96, .if_icmp .ne 7, 3, 103, 0, []),
  (99, .iload_n 3, 1, 3, 0, []),
  (100, .goto 27, 3, 127, 0, []),
  (103, .iload 7, 2, 7, 0, []),
  (105, .iconst 2, 1, 0, nI 2, []),
  (106, .if_icmp .ne 8, 3, 114, 0, []),
  (109, .iload 4, 2, 4, 0, []),
  (111, .goto 16, 3, 127, 0, []),
  (114, .iload 7, 2, 7, 0, []),
  (116, .iconst 3, 1, 0, nI 3, []),
  (117, .if_icmp .ne 8, 3, 125, 0, []),
  (120, .iload 5, 2, 5, 0, []),
  (122, .goto 5, 3, 127, 0, []),
  (125, .iload 6, 2, 6, 0, []),
  (127, .invokevirtual 58, 3, 0, 0, []),
  (130, .iinc 7 1, 3, 7, nI 1, []),
  (133, .goto (-59), 3, 74, 0, []),
  (136, .aload_n 0, 1, 0, 0, []),
  (137, .getfield 10, 3, 0, 0, []),
  (140, .getfield 54, 3, 0, 0, []),
  (143, .ireturn, 1, 0, 0, [])]
theorem kk_X7_feed : (k_X7_feed.all fun e => mChk cX7_feed e.1 e.2) = true := by decide +kernel
def l_X7_feed : List (Nat × Nat × (mG → mT)) := [(3 * 50 + 1, 1, t_X7_isByte), (3 * 58, 1 + 1, t_X6_add)]
def f_X7_feed (g : mG) : mF := (mLk k_X7_feed, mLk fl_RX7, mLk (l_X7_feed.map fun e => (e.1, e.2.1, e.2.2 g)), mLk ([] : List (Nat × mV)), mLk ([] : List (Nat × mV)), some .int)
theorem m_X7_feed (g : mG) : mMono (f_X7_feed g) := mMonoL (g := g) (l := l_X7_feed) (List.forall_mem_cons.mpr ⟨mo_X7_isByte, List.forall_mem_cons.mpr ⟨mo_X6_add, fun _ h => absurd h List.not_mem_nil⟩⟩) rfl

theorem v_feed_0 (g : mG) (M : mM) (P : mP) (x y u v w t : Int32)
    (h : (x < (nI 1) → P (some (.inl (-2))) M) ∧ (¬ (x < (nI 1)) → (x ≤ (nI 5) → ((fByte y) = 0 → P (some (.inl (-2))) M) ∧ (¬ ((fByte y) = 0) → ((fByte u) = 0 → P (some (.inl (-2))) M) ∧ (¬ ((fByte u) = 0) → ((fByte v) = 0 → P (some (.inl (-2))) M) ∧ (¬ ((fByte v) = 0) → ((fByte w) = 0 → P (some (.inl (-2))) M) ∧ (¬ ((fByte w) = 0) → (¬ (fByte t) = 0 → mRun (mSx g) (f_X7_feed g) P (54, [some (.inr (some 0)), some (.inl x), some (.inl y), some (.inl u), some (.inl v), some (.inl w), some (.inl t), none], [], M)) ∧ (¬ (¬ (fByte t) = 0) → P (some (.inl (-2))) M)))))) ∧ (¬ (x ≤ (nI 5)) → P (some (.inl (-2))) M))) :
    mRun (mSx g) (f_X7_feed g) P (0, [some (.inr (some 0)), some (.inl x), some (.inl y), some (.inl u), some (.inl v), some (.inl w), some (.inl t), none], [], M) := mRun.vc (m_X7_feed g) [54] 23 h

theorem v_feed_54 (g : mG) (M : mM) (P : mP) (x y u v w t : Int32)
    (h : (((M 1 1) + x) ≤ (nI 40) → mRun (mSx g) (f_X7_feed g) P (74, [some (.inr (some 0)), some (.inl x), some (.inl y), some (.inl u), some (.inl v), some (.inl w), some (.inl t), some (.inl (nI 0))], [], M)) ∧ (¬ (((M 1 1) + x) ≤ (nI 40)) → P (some (.inl (-4))) M)) :
    mRun (mSx g) (f_X7_feed g) P (54, [some (.inr (some 0)), some (.inl x), some (.inl y), some (.inl u), some (.inl v), some (.inl w), some (.inl t), none], [], M) := mRun.vc (m_X7_feed g) [74] 10 h

theorem v_feed_74 (g : mG) (M : mM) (P : mP) (x y u v w t : Int32) (k : Int32)
    (h : (x ≤ k → P (some (.inl (M 1 1))) M) ∧ (¬ (x ≤ k) → (¬ k = 0 → (¬ k = (nI 1) → (¬ k = (nI 2) → (¬ k = (nI 3) → let M6 : mM := mUp M 2 (aSet (M 2) 40 (M 1 1) t); let M7 : mM := mW1 M6 1 1 ((M 1 1) + (nI 1)); mRun (mSx g) (f_X7_feed g) P (74, [some (.inr (some 0)), some (.inl x), some (.inl y), some (.inl u), some (.inl v), some (.inl w), some (.inl t), some (.inl (k + (nI 1)))], [], M7)) ∧ (¬ (¬ k = (nI 3)) → let M8 : mM := mUp M 2 (aSet (M 2) 40 (M 1 1) w); let M9 : mM := mW1 M8 1 1 ((M 1 1) + (nI 1)); mRun (mSx g) (f_X7_feed g) P (74, [some (.inr (some 0)), some (.inl x), some (.inl y), some (.inl u), some (.inl v), some (.inl w), some (.inl t), some (.inl (k + (nI 1)))], [], M9))) ∧ (¬ (¬ k = (nI 2)) → let M10 : mM := mUp M 2 (aSet (M 2) 40 (M 1 1) v); let M11 : mM := mW1 M10 1 1 ((M 1 1) + (nI 1)); mRun (mSx g) (f_X7_feed g) P (74, [some (.inr (some 0)), some (.inl x), some (.inl y), some (.inl u), some (.inl v), some (.inl w), some (.inl t), some (.inl (k + (nI 1)))], [], M11))) ∧ (¬ (¬ k = (nI 1)) → let M12 : mM := mUp M 2 (aSet (M 2) 40 (M 1 1) u); let M13 : mM := mW1 M12 1 1 ((M 1 1) + (nI 1)); mRun (mSx g) (f_X7_feed g) P (74, [some (.inr (some 0)), some (.inl x), some (.inl y), some (.inl u), some (.inl v), some (.inl w), some (.inl t), some (.inl (k + (nI 1)))], [], M13))) ∧ (¬ (¬ k = 0) → let M14 : mM := mUp M 2 (aSet (M 2) 40 (M 1 1) y); let M15 : mM := mW1 M14 1 1 ((M 1 1) + (nI 1)); mRun (mSx g) (f_X7_feed g) P (74, [some (.inr (some 0)), some (.inl x), some (.inl y), some (.inl u), some (.inl v), some (.inl w), some (.inl t), some (.inl (k + (nI 1)))], [], M15)))) :
    mRun (mSx g) (f_X7_feed g) P (74, [some (.inr (some 0)), some (.inl x), some (.inl y), some (.inl u), some (.inl v), some (.inl w), some (.inl t), some (.inl k)], [], M) := mRun.vc (m_X7_feed g) [74] 22 h

theorem feed_loop (g : mG) (P : mP) (M0 : mM) (z : aZ) (x y u v w t : Int32) (n : Nat) (hn : n ≤ 5) (hx : x = nI n) (hl : z.1.length + n ≤ 40) (hP : ∀ M', RpTp M' (z.1 ++ [y, u, v, w, t].take n) → (∀ c, c ≠ 1 → c ≠ 2 → M' c = M0 c) → P (some (.inl (M' 1 1))) M') :
    ∀ (j k : Nat) (M : mM), k + j = n → RpTp M (z.1 ++ [y, u, v, w, t].take k) → (∀ c, c ≠ 1 → c ≠ 2 → M c = M0 c) → mRun (mSx g) (f_X7_feed g) P (74, [some (.inr (some 0)), some (.inl x), some (.inl y), some (.inl u), some (.inl v), some (.inl w), some (.inl t), some (.inl (nI k))], [], M)
  | 0, k, M, h, hT, hF => by
    obtain rfl : k = n := by omega
    refine v_feed_74 g M P _ _ _ _ _ _ _ ?_
    rw [hx]
    exact ⟨fun _ => hP M hT hF, fun y => absurd (nI_le (Nat.le_refl k) (by omega)) y⟩
  | j + 1, k, M, h, hT, hF => by
    have hlen : (z.1 ++ [y, u, v, w, t].take k).length = z.1.length + k := by
      rw [List.length_append, List.length_take]
      show z.1.length + min k 5 = _
      omega
    have e1 : M 1 1 = nI (z.1.length + k) := by rw [← hlen]; exact hT.1
    have go : ∀ b, b = [y, u, v, w, t].getD k 0 → mRun (mSx g) (f_X7_feed g) P (74, [some (.inr (some 0)), some (.inl x), some (.inl y), some (.inl u), some (.inl v), some (.inl w), some (.inl t), some (.inl (nI k + nI 1))], [], mW1 (mUp M 2 (aSet (M 2) 40 (M 1 1) b)) 1 1 (M 1 1 + nI 1)) := fun b hb => by
      rw [nI_add]
      refine feed_loop g P M0 z x y u v w t n hn hx hl hP j (k + 1) _ (by omega) ?_ (fun c h1 h2 => by rw [mW1_c h1, mUp_ne h2]; exact hF c h1 h2)
      rw [take_next (by show k < 5; omega), ← List.append_assoc, ← hb]
      refine RpTp_add hT ?_ ?_
      · rw [mW1_s, e1, nI_add, hlen]
      · rw [mW1_c (by decide), mUp_at, e1, aSet_in (by omega) (by decide), hlen]
    refine v_feed_74 g M P _ _ _ _ _ _ _ ?_
    rw [hx]
    refine ⟨fun y => absurd y (nI_ge (by omega) (by omega)), fun _ => ?_⟩
    rcases (by omega : k = 0 ∨ k = 1 ∨ k = 2 ∨ k = 3 ∨ k = 4) with rfl | rfl | rfl | rfl | rfl
    · exact ⟨fun y => absurd rfl y, fun _ => by rw [← hx]; exact go _ rfl⟩
    · exact ⟨fun _ => ⟨fun y => absurd rfl y, fun _ => by rw [← hx]; exact go _ rfl⟩, fun y => absurd (by decide) y⟩
    · exact ⟨fun _ => ⟨fun _ => ⟨fun y => absurd rfl y, fun _ => by rw [← hx]; exact go _ rfl⟩, fun y => absurd (by decide) y⟩, fun y => absurd (by decide) y⟩
    · exact ⟨fun _ => ⟨fun _ => ⟨fun _ => ⟨fun y => absurd rfl y, fun _ => by rw [← hx]; exact go _ rfl⟩, fun y => absurd (by decide) y⟩, fun y => absurd (by decide) y⟩, fun y => absurd (by decide) y⟩
    · exact ⟨fun _ => ⟨fun _ => ⟨fun _ => ⟨fun _ => by rw [← hx]; exact go _ rfl, fun y => absurd (by decide) y⟩, fun y => absurd (by decide) y⟩, fun y => absurd (by decide) y⟩, fun y => absurd (by decide) y⟩
set_option maxHeartbeats 1000000 in
theorem run_X7_feed : mRunOf 8 t_X7_feed f_X7_feed := runC6 (by decide) (fun g M P z x y u v w t hR hI hP => by
  have hR' := hR
  obtain ⟨c1, c2, c3, c4, c5, c6⟩ := hR'
  have hlen := hI.1.1
  refine v_feed_0 g M P x y u v w t ?_
  rcases ix_1 (b := x) (m := 5) (by decide) with ⟨hx, e1⟩ | ⟨k, hk, hx, e1⟩
  · rw [show F_feed z [x, y, u, v, w, t] = (-2, z) by simp only [F_feed, e1]] at hP
    refine ⟨fun _ => hP _ _ rfl hR FrC.refl, fun h1 => ⟨fun h2 => absurd (hx.resolve_left h1) (Int32.not_lt.mpr h2), fun _ => hP _ _ rfl hR FrC.refl⟩⟩
  refine ⟨fun h => absurd h (by rw [hx]; exact nI_nlt (by omega) (by omega)), fun _ => ⟨fun _ => ?_, fun h => absurd (by rw [hx]; exact nI_le (by omega) (by omega)) h⟩⟩
  by_cases hb : fByte y = 0 ∨ fByte u = 0 ∨ fByte v = 0 ∨ fByte w = 0 ∨ fByte t = 0
  · rw [show F_feed z [x, y, u, v, w, t] = (-2, z) by simp only [F_feed, e1]; rw [if_pos hb]] at hP
    have done : P (some (.inl (-2))) M := hP _ _ rfl hR FrC.refl
    exact ⟨fun _ => done, fun h1 => ⟨fun _ => done, fun h2 => ⟨fun _ => done, fun h3 => ⟨fun _ => done, fun h4 => ⟨fun h5 => absurd hb (fun q => q.elim h1 (fun q => q.elim h2 (fun q => q.elim h3 (fun q => q.elim h4 h5)))), fun _ => done⟩⟩⟩⟩⟩
  · rw [show F_feed z [x, y, u, v, w, t] = if 40 < z.1.length + (k + 1) then (-4, z) else (nI (z.1.length + (k + 1)), z.1 ++ [y, u, v, w, t].take (k + 1), z.2) by simp only [F_feed, e1]; rw [if_neg hb]] at hP
    refine ⟨fun h => absurd (Or.inl h) hb, fun _ => ⟨fun h => absurd (Or.inr (Or.inl h)) hb, fun _ => ⟨fun h => absurd (Or.inr (Or.inr (Or.inl h))) hb, fun _ => ⟨fun h => absurd (Or.inr (Or.inr (Or.inr (Or.inl h)))) hb, fun _ => ⟨fun _ => ?_, fun h => absurd (Or.inr (Or.inr (Or.inr (Or.inr (Classical.not_not.mp h))))) hb⟩⟩⟩⟩⟩
    refine v_feed_54 g M P x y u v w t ?_
    have e11 : M 1 1 + x = nI (z.1.length + (k + 1)) := by rw [c1.1, hx, nI_add]
    rw [e11]
    refine ⟨fun h => ?_, fun h => ?_⟩
    · have h' := (nI_leI (by omega) (by decide)).mp h
      rw [if_neg (by omega)] at hP
      refine feed_loop g P M z x y u v w t (k + 1) (by omega) hx h' (fun M' hT hF => ?_) (k + 1) 0 M (by omega) (by rw [List.take_zero, List.append_nil]; exact c1) (fun _ _ _ => rfl)
      have hl2 : (z.1 ++ [y, u, v, w, t].take (k + 1)).length = z.1.length + (k + 1) := by
        rw [List.length_append, List.length_take]
        show z.1.length + min (k + 1) 5 = _
        omega
      refine hP _ M' (by rw [← hl2]; exact hT.1) ⟨hT, RpL_fr c2 (fun j hj => hF _ (by omega) (by omega)), ⟨?_, fun l hl => RpL_fr (c3.2 l hl) (fun j hj => hF _ (by omega) (by omega))⟩, RpT_fr c4 (fun j hj => hF _ (by omega) (by omega)), RpSh_fr c5 (fun c h1 h2 => hF c (by omega) (by omega)), ?_⟩ (fun c hc => hF c (by omega) (by omega))
      · rw [hF 0 (by decide) (by decide)]
        exact c3.1
      · unfold RpLn
        rw [hF 48 (by decide) (by decide)]
        exact c6
    · rw [if_pos (Nat.lt_of_not_le (fun y => h (nI_le y (by decide))))] at hP
      exact hP _ _ rfl hR FrC.refl)

theorem ok_X7_feed : mOK yX7_feed cX7_feed 8 (some .int) 3 t_X7_feed := mOK.of f_X7_feed (by decide) (fun _ => rfl) (fun g => mCodeOK kk_X7_feed) (fun g => mFldL fk_RX7 rfl) (fun g idx v h => by cases h) (fun g idx v h => by cases h) (mCalL (l := l_X7_feed) (List.forall_mem_cons.mpr ⟨mSite.S (idx := 50) ok_X7_isByte (by decide) (by decide) wc_X7_isByte wk_RX7_50 wt_X7_isByte wn_RX7 wd_X7_isByte, List.forall_mem_cons.mpr ⟨mSite.V (idx := 58) ok_X6_add (by decide) (by decide) rv_X6_add wc_X6_add wk_RX7_58 wi_X6_add wl_X6_add wn_RX6 wd_X6_add, fun _ h => absurd h List.not_mem_nil⟩⟩) (fun _ => rfl)) run_X7_feed

