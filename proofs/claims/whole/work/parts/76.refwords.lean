/-! ===== THE REFERENCE: feed; words of the tape ===== -/
def k_X8_isByte : List (Nat × mI) := [(0, .iload_n 0, 1, 0, 0, []),
  (1, .iconst 0, 1, 0, nI 0, []),
  (2, .sipush 255, 3, 0, nI 255, []),
  (5, .invokestatic 214, 3, 0, 0, []),
  (8, .ireturn, 1, 0, 0, [])]
theorem kk_X8_isByte : (k_X8_isByte.all fun e => mChk cX8_isByte e.1 e.2) = true := by decide +kernel
def l_X8_isByte : List (Nat × Nat × (mG → mT)) := [(3 * 214 + 1, 3, t_X8_in)]
def f_X8_isByte (g : mG) : mF := (mLk k_X8_isByte, mLk fl_RX8, mLk (l_X8_isByte.map fun e => (e.1, e.2.1, e.2.2 g)), mLk ([] : List (Nat × mV)), mLk ([] : List (Nat × mV)), some .boolean)
theorem m_X8_isByte (g : mG) : mMono (f_X8_isByte g) := mMonoL (g := g) (l := l_X8_isByte) (List.forall_mem_cons.mpr ⟨mo_X8_in, fun _ h => absurd h List.not_mem_nil⟩) rfl
def t_X8_isByte : mG → mT := mSV f_X8_isByte 1 6
theorem mo_X8_isByte : mMn t_X8_isByte := mSV_mono m_X8_isByte
theorem ok_X8_isByte : mOK yX8_isByte cX8_isByte 1 (some .boolean) 2 t_X8_isByte := mOK.of f_X8_isByte (by decide) (fun _ => rfl) (fun g => mCodeOK kk_X8_isByte) (fun g => mFldL fk_RX8 rfl) (fun g idx v h => by cases h) (fun g idx v h => by cases h) (mCalL (l := l_X8_isByte) (List.forall_mem_cons.mpr ⟨mSite.S (idx := 214) ok_X8_in (by decide) (by decide) wc_X8_in wk_RX8_214 wt_X8_in wn_RX8 wd_X8_in, fun _ h => absurd h List.not_mem_nil⟩) (fun _ => rfl)) (mSV_run m_X8_isByte)

theorem fIn_15 (b : Int32) : fIn b (nI 1) (nI 5) = mb ((ix (b - nI 1) 5).isSome = true) := by
  unfold fIn
  refine mb_congr ?_
  rcases ix_1 (b := b) (m := 5) (by decide) with ⟨h, e⟩ | ⟨j, hj, rfl, e⟩
  · rw [e]
    refine ⟨fun w => ?_, fun w => by cases w⟩
    rcases h with h | h
    · exact absurd w.1 (Int32.not_le.mpr h)
    · exact absurd w.2 (Int32.not_le.mpr h)
  · rw [e]
    exact ⟨fun _ => rfl, fun _ => ⟨nI_le (by omega) (by omega), nI_le (by omega) (by decide)⟩⟩
theorem fIn_byte (b : Int32) : fIn b (nI 0) (nI 255) = fByte b := rfl
theorem fByte_01 (b : Int32) : fByte b = 0 ∨ fByte b = 1 := mb_01
/-- a byte more in the reference's tape -/
theorem RmTp_fr {M M' : mM} {t : List Int32} (h : RmTp M t) (h1 : M' 50 33 = M 50 33) (h2 : M' 77 = M 77) : RmTp M' t := ⟨h1.trans h.1, fun j hj => by rw [h2]; exact h.2 j hj⟩
abbrev t_X8_feed : mG → mT := pubM 6 F_feed
theorem mo_X8_feed : mMn t_X8_feed := pubM_mono
theorem rv_X8_feed : mHasR yX8_feed 6 t_X8_feed := pubM_recv rfl
def k_X8_feed : List (Nat × mI) := [(0, .iload_n 1, 1, 1, 0, []),
  (1, .iconst 1, 1, 0, nI 1, []),
  (2, .iconst 5, 1, 0, nI 5, []),
  (3, .invokestatic 214, 3, 0, 0, []),
  (6, .ifCond .eq 41, 3, 47, 0, []),
  (9, .iload_n 2, 1, 2, 0, []),
  (10, .invokestatic 218, 3, 0, 0, []),
  (13, .ifCond .eq 34, 3, 47, 0, []),
  (16, .iload_n 3, 1, 3, 0, []),
  (17, .invokestatic 218, 3, 0, 0, []),
  (20, .ifCond .eq 27, 3, 47, 0, []),
  (23, .iload 4, 2, 4, 0, []),
  (25, .invokestatic 218, 3, 0, 0, []),
  (28, .ifCond .eq 19, 3, 47, 0, []),
  (31, .iload 5, 2, 5, 0, []),
  (33, .invokestatic 218, 3, 0, 0, []),
  (36, .ifCond .eq 11, 3, 47, 0, []),
  (39, .iload 6, 2, 6, 0, []),
  (41, .invokestatic 218, 3, 0, 0, []),
  (44, .ifCond .ne 6, 3, 50, 0, []),
  (47, .bipush (-2), 2, 0, -2, []),
  (49, .ireturn, 1, 0, 0, []),
  (50, .aload_n 0, 1, 0, 0, []),
  (51, .getfield 222, 3, 0, 0, []),
  (54, .iload_n 1, 1, 1, 0, []),
  (55, .iadd, 1, 0, 0, []),
  (56, .bipush 40, 2, 0, nI 40, []),
  (58, .if_icmp .le 6, 3, 64, 0, []),
  (61, .bipush (-4), 2, 0, -4, []),
  (63, .ireturn, 1, 0, 0, []),
  (64, .iconst 0, 1, 0, nI 0, []),
  (65, .istore 7, 2, 7, 0, []),
  (67, .iload 7, 2, 7, 0, []),
  (69, .iload_n 1, 1, 1, 0, []),
  (70, .if_icmp .ge 64, 3, 134, 0, []),
  (73, .aload_n 0, 1, 0, 0, []),
  (74, .getfield 54, 3, 0, 0, []),
  (77, .aload_n 0, 1, 0, 0, []),
  (78, .getfield 222, 3, 0, 0, []),
  (81, .iload 7, 2, 7, 0, []),
  (83, .iadd, 1, 0, 0, []),
  (84, .iload 7, 2, 7, 0, []),
  (86, .ifCond .ne 7, 3, 93, 0, []),
  (89, .iload_n 2, 1, 2, 0, []),
  (90, .goto 37, 3, 127, 0, []),
  (93, .iload 7, 2, 7, 0, []),
  (95, .iconst 1, 1, 0, nI 1, []),
  (96, .if_icmp .ne 7, 3, 103, 0, []),
  (99, .iload_n 3, 1, 3, 0, []),
  (100, .goto 27, 3, 127, 0, []),
  (103, .iload 7, 2, 7, 0, []),
  (105, .iconst 2, 1, 0, nI 2, []),
  (106, .if_icmp .ne 8, 3, 114, 0, []),
  (109, .iload 4, 2, 4, 0, []),
  (111, .goto 16, 3, 127, 0, []),
  (114, .iload 7, 2, 7, 0, []),
  (116, .iconst 3, 1, 0, nI 3, []),
  (117, .if_icmp .ne 8, 3, 125, 0, []),
  (120, .iload 5, 2, 5, 0, []),
  (122, .goto 5, 3, 127, 0, []),
  (125, .iload 6, 2, 6, 0, []),
  (127, .iastore, 1, 0, 0, []),
  (128, .iinc 7 1, 3, 7, nI 1, []),
  (131, .goto (-64), 3, 67, 0, []),
  (134, .aload_n 0, 1, 0, 0, []),
  (135, .dup, 1, 0, 0, []),
  (136, .getfield 222, 3, 0, 0, []),
  (139, .iload_n 1, 1, 1, 0, []),
  (140, .iadd, 1, 0, 0, []),
  (141, .putfield 222, 3, 0, 0, []),
  (144, .aload_n 0, 1, 0, 0, []),
  (145, .getfield 222, 3, 0, 0, []),
  (148, .ireturn, 1, 0, 0, [])]
theorem kk_X8_feed : (k_X8_feed.all fun e => mChk cX8_feed e.1 e.2) = true := by decide +kernel
def l_X8_feed : List (Nat × Nat × (mG → mT)) := [(3 * 214 + 1, 3, t_X8_in), (3 * 218 + 1, 1, t_X8_isByte)]
def f_X8_feed (g : mG) : mF := (mLk k_X8_feed, mLk fl_RX8, mLk (l_X8_feed.map fun e => (e.1, e.2.1, e.2.2 g)), mLk ([] : List (Nat × mV)), mLk ([] : List (Nat × mV)), some .int)
theorem m_X8_feed (g : mG) : mMono (f_X8_feed g) := mMonoL (g := g) (l := l_X8_feed) (List.forall_mem_cons.mpr ⟨mo_X8_in, List.forall_mem_cons.mpr ⟨mo_X8_isByte, fun _ h => absurd h List.not_mem_nil⟩⟩) rfl

set_option maxRecDepth 100000 in
theorem w_feed_0 (g : mG) (M : mM) (P : mP) (x y u v w t : Int32)
    (h : ((fIn x (nI 1) (nI 5)) = 0 → P (some (.inl (-2))) M) ∧ (¬ ((fIn x (nI 1) (nI 5)) = 0) → ((fIn y (nI 0) (nI 255)) = 0 ∨ (fIn y (nI 0) (nI 255)) = 1) ∧ (((fIn y (nI 0) (nI 255)) = 0 → P (some (.inl (-2))) M) ∧ (¬ ((fIn y (nI 0) (nI 255)) = 0) → ((fIn u (nI 0) (nI 255)) = 0 ∨ (fIn u (nI 0) (nI 255)) = 1) ∧ (((fIn u (nI 0) (nI 255)) = 0 → P (some (.inl (-2))) M) ∧ (¬ ((fIn u (nI 0) (nI 255)) = 0) → ((fIn v (nI 0) (nI 255)) = 0 ∨ (fIn v (nI 0) (nI 255)) = 1) ∧ (((fIn v (nI 0) (nI 255)) = 0 → P (some (.inl (-2))) M) ∧ (¬ ((fIn v (nI 0) (nI 255)) = 0) → ((fIn w (nI 0) (nI 255)) = 0 ∨ (fIn w (nI 0) (nI 255)) = 1) ∧ (((fIn w (nI 0) (nI 255)) = 0 → P (some (.inl (-2))) M) ∧ (¬ ((fIn w (nI 0) (nI 255)) = 0) → ((fIn t (nI 0) (nI 255)) = 0 ∨ (fIn t (nI 0) (nI 255)) = 1) ∧ ((¬ (fIn t (nI 0) (nI 255)) = 0 → (((M 50 33) + x) ≤ (nI 40) → mRun (mSx g) (f_X8_feed g) P (67, [some (.inr (some 50)), some (.inl x), some (.inl y), some (.inl u), some (.inl v), some (.inl w), some (.inl t), some (.inl (nI 0))], [], M)) ∧ (¬ (((M 50 33) + x) ≤ (nI 40)) → P (some (.inl (-4))) M)) ∧ (¬ (¬ (fIn t (nI 0) (nI 255)) = 0) → P (some (.inl (-2))) M)))))))))))) :
    mRun (mSx g) (f_X8_feed g) P (0, [some (.inr (some 50)), some (.inl x), some (.inl y), some (.inl u), some (.inl v), some (.inl w), some (.inl t), none], [], M) := mRun.vc (m_X8_feed g) [67] 29 h

theorem w_feed_67 (g : mG) (M : mM) (P : mP) (x y u v w t k : Int32)
    (h : (x ≤ k → let M2 : mM := mW1 M 50 33 ((M 50 33) + x); P (some (.inl ((M 50 33) + x))) M2) ∧ (¬ (x ≤ k) → (¬ k = 0 → (¬ k = (nI 1) → (¬ k = (nI 2) → (¬ k = (nI 3) → vp_in ((M 50 33) + k) 40 ∧ (let M7 : mM := mW1 M 77 (((M 50 33) + k).toNatClampNeg) t; mRun (mSx g) (f_X8_feed g) P (67, [some (.inr (some 50)), some (.inl x), some (.inl y), some (.inl u), some (.inl v), some (.inl w), some (.inl t), some (.inl (k + (nI 1)))], [], M7))) ∧ (¬ (¬ k = (nI 3)) → vp_in ((M 50 33) + k) 40 ∧ (let M8 : mM := mW1 M 77 (((M 50 33) + k).toNatClampNeg) w; mRun (mSx g) (f_X8_feed g) P (67, [some (.inr (some 50)), some (.inl x), some (.inl y), some (.inl u), some (.inl v), some (.inl w), some (.inl t), some (.inl (k + (nI 1)))], [], M8)))) ∧ (¬ (¬ k = (nI 2)) → vp_in ((M 50 33) + k) 40 ∧ (let M9 : mM := mW1 M 77 (((M 50 33) + k).toNatClampNeg) v; mRun (mSx g) (f_X8_feed g) P (67, [some (.inr (some 50)), some (.inl x), some (.inl y), some (.inl u), some (.inl v), some (.inl w), some (.inl t), some (.inl (k + (nI 1)))], [], M9)))) ∧ (¬ (¬ k = (nI 1)) → vp_in ((M 50 33) + k) 40 ∧ (let M10 : mM := mW1 M 77 (((M 50 33) + k).toNatClampNeg) u; mRun (mSx g) (f_X8_feed g) P (67, [some (.inr (some 50)), some (.inl x), some (.inl y), some (.inl u), some (.inl v), some (.inl w), some (.inl t), some (.inl (k + (nI 1)))], [], M10)))) ∧ (¬ (¬ k = 0) → vp_in ((M 50 33) + k) 40 ∧ (let M11 : mM := mW1 M 77 (((M 50 33) + k).toNatClampNeg) y; mRun (mSx g) (f_X8_feed g) P (67, [some (.inr (some 50)), some (.inl x), some (.inl y), some (.inl u), some (.inl v), some (.inl w), some (.inl t), some (.inl (k + (nI 1)))], [], M11))))) :
    mRun (mSx g) (f_X8_feed g) P (67, [some (.inr (some 50)), some (.inl x), some (.inl y), some (.inl u), some (.inl v), some (.inl w), some (.inl t), some (.inl k)], [], M) := mRun.vc (m_X8_feed g) [67] 26 h

theorem feedM_loop (g : mG) (P : mP) (M0 : mM) (s : List Int32) (x y u v w t : Int32) (n : Nat) (hn : n ≤ 5) (hx : x = nI n) (hl : s.length + n ≤ 40) (h0 : M0 50 33 = nI s.length)
    (hP : ∀ M' : mM, (∀ c, c ≠ 77 → M' c = M0 c) → (∀ i, i < s.length → M' 77 i = M0 77 i) → (∀ i, i < n → M' 77 (s.length + i) = [y, u, v, w, t].getD i 0) → P (some (.inl (nI (s.length + n)))) (mW1 M' 50 33 (nI (s.length + n)))) :
    ∀ (j k : Nat) (M : mM), k + j = n → (∀ c, c ≠ 77 → M c = M0 c) → (∀ i, i < s.length → M 77 i = M0 77 i) → (∀ i, i < k → M 77 (s.length + i) = [y, u, v, w, t].getD i 0) →
    mRun (mSx g) (f_X8_feed g) P (67, [some (.inr (some 50)), some (.inl x), some (.inl y), some (.inl u), some (.inl v), some (.inl w), some (.inl t), some (.inl (nI k))], [], M)
  | 0, k, M, h, h1, h2, h3 => by
    obtain rfl : k = n := by omega
    have e : M 50 33 = nI s.length := (congrFun (h1 50 (by decide)) 33).trans h0
    refine w_feed_67 g M P _ _ _ _ _ _ _ ?_
    rw [hx, e, nI_add]
    exact ⟨fun _ => hP M h1 h2 h3, fun q => absurd (nI_le (Nat.le_refl k) (by omega)) q⟩
  | j + 1, k, M, h, h1, h2, h3 => by
    have e : M 50 33 = nI s.length := (congrFun (h1 50 (by decide)) 33).trans h0
    have go : ∀ b, b = [y, u, v, w, t].getD k 0 → mRun (mSx g) (f_X8_feed g) P (67, [some (.inr (some 50)), some (.inl (nI n)), some (.inl y), some (.inl u), some (.inl v), some (.inl w), some (.inl t), some (.inl (nI (k + 1)))], [], mW1 M 77 (s.length + k) b) := fun b hb => by
      have := feedM_loop g P M0 s x y u v w t n hn hx hl h0 hP j (k + 1) (mW1 M 77 (s.length + k) b) (by omega) (fun c hc => (mW1_c hc).trans (h1 c hc)) (fun i hi => ?_) (fun i hi => ?_)
      · rw [hx] at this
        exact this
      · rw [mW1_k (by omega)]
        exact h2 i hi
      · by_cases q : i = k
        · rw [q, mW1_s, hb]
        · rw [mW1_k (by omega)]
          exact h3 i (by omega)
    refine w_feed_67 g M P _ _ _ _ _ _ _ ?_
    rw [hx, e, nI_add, nI_add, nI_clamp (by omega)]
    refine ⟨fun q => absurd q (nI_ge (by omega) (by omega)), fun _ => ?_⟩
    rcases (by omega : k = 0 ∨ k = 1 ∨ k = 2 ∨ k = 3 ∨ k = 4) with rfl | rfl | rfl | rfl | rfl
    · exact ⟨fun y => absurd rfl y, fun _ => ⟨vp_in_nI (by omega) (by decide), go _ rfl⟩⟩
    · exact ⟨fun _ => ⟨fun y => absurd rfl y, fun _ => ⟨vp_in_nI (by omega) (by decide), go _ rfl⟩⟩, fun y => absurd (by decide) y⟩
    · exact ⟨fun _ => ⟨fun _ => ⟨fun y => absurd rfl y, fun _ => ⟨vp_in_nI (by omega) (by decide), go _ rfl⟩⟩, fun y => absurd (by decide) y⟩, fun y => absurd (by decide) y⟩
    · exact ⟨fun _ => ⟨fun _ => ⟨fun _ => ⟨fun y => absurd rfl y, fun _ => ⟨vp_in_nI (by omega) (by decide), go _ rfl⟩⟩, fun y => absurd (by decide) y⟩, fun y => absurd (by decide) y⟩, fun y => absurd (by decide) y⟩
    · exact ⟨fun _ => ⟨fun _ => ⟨fun _ => ⟨fun _ => ⟨vp_in_nI (by omega) (by decide), go _ rfl⟩, fun y => absurd (by decide) y⟩, fun y => absurd (by decide) y⟩, fun y => absurd (by decide) y⟩, fun y => absurd (by decide) y⟩
set_option maxHeartbeats 1000000 in
theorem run_X8_feed : mRunOf 8 t_X8_feed f_X8_feed := runM6 (by decide) (fun g M P z x y u v w t hR hI hP => by
  have hlen := hI.1.1
  obtain ⟨⟨t1, t2⟩, ⟨l0, l1⟩, ⟨u5, u6⟩, hT, hS⟩ := id hR
  refine w_feed_0 g M P x y u v w t ?_
  rw [fIn_15, fIn_byte, fIn_byte, fIn_byte, fIn_byte, fIn_byte]
  rcases ix_1 (b := x) (m := 5) (by decide) with ⟨hx, e1⟩ | ⟨k, hk, hx, e1⟩
  · rw [show F_feed z [x, y, u, v, w, t] = (-2, z) by simp only [F_feed, e1]] at hP
    rw [e1, mb_no]
    exact ⟨fun _ => hP _ _ rfl hR FrM.refl, fun h => absurd rfl h⟩
  rw [e1, mb_so]
  refine ⟨fun h => absurd h (by decide), fun _ => ?_⟩
  by_cases hb : fByte y = 0 ∨ fByte u = 0 ∨ fByte v = 0 ∨ fByte w = 0 ∨ fByte t = 0
  · rw [show F_feed z [x, y, u, v, w, t] = (-2, z) by simp only [F_feed, e1]; rw [if_pos hb]] at hP
    have done : P (some (.inl (-2))) M := hP _ _ rfl hR FrM.refl
    exact ⟨fByte_01 _, fun _ => done, fun h1 => ⟨fByte_01 _, fun _ => done, fun h2 => ⟨fByte_01 _, fun _ => done, fun h3 => ⟨fByte_01 _, fun _ => done, fun h4 => ⟨fByte_01 _, fun h5 => absurd hb (fun q => q.elim h1 (fun q => q.elim h2 (fun q => q.elim h3 (fun q => q.elim h4 h5)))), fun _ => done⟩⟩⟩⟩⟩
  · rw [show F_feed z [x, y, u, v, w, t] = if 40 < z.1.length + (k + 1) then (-4, z) else (nI (z.1.length + (k + 1)), z.1 ++ [y, u, v, w, t].take (k + 1), z.2) by simp only [F_feed, e1]; rw [if_neg hb]] at hP
    refine ⟨fByte_01 _, fun h => absurd (Or.inl h) hb, fun _ => ⟨fByte_01 _, fun h => absurd (Or.inr (Or.inl h)) hb, fun _ => ⟨fByte_01 _, fun h => absurd (Or.inr (Or.inr (Or.inl h))) hb, fun _ => ⟨fByte_01 _, fun h => absurd (Or.inr (Or.inr (Or.inr (Or.inl h)))) hb, fun _ => ⟨fByte_01 _, fun _ => ?_, fun h => absurd (Or.inr (Or.inr (Or.inr (Or.inr (Classical.not_not.mp h))))) hb⟩⟩⟩⟩⟩
    have e11 : M 50 33 + x = nI (z.1.length + (k + 1)) := by rw [t1, hx, nI_add]
    rw [e11]
    refine ⟨fun h => ?_, fun h => ?_⟩
    · have h' := (nI_leI (by omega) (by decide)).mp h
      rw [if_neg (by omega)] at hP
      refine feedM_loop g P M z.1 x y u v w t (k + 1) (by omega) hx h' t1 (fun M' a1 a2 a3 => ?_) (k + 1) 0 M (by omega) (fun _ _ => rfl) (fun _ _ => rfl) (fun i hi => absurd hi (Nat.not_lt_zero i))
      have hl2 : (z.1 ++ [y, u, v, w, t].take (k + 1)).length = z.1.length + (k + 1) := by
        rw [List.length_append, List.length_take]
        show z.1.length + min (k + 1) 5 = _
        omega
      have f50 : ∀ q, q ≠ 33 → mW1 M' 50 33 (nI (z.1.length + (k + 1))) 50 q = M 50 q := fun q hq => (mW1_k hq).trans (congrFun (a1 50 (by decide)) q)
      have fc : ∀ c, c ≠ 50 → c ≠ 77 → mW1 M' 50 33 (nI (z.1.length + (k + 1))) c = M c := fun c h1 h2 => (mW1_c h1).trans (a1 c h2)
      refine hP _ _ rfl ⟨⟨by rw [mW1_s, hl2], fun j hj => ?_⟩, ⟨(f50 0 (by decide)).trans l0, RmL_fr l1 (fun c a b => fc c (by omega) (by omega))⟩, ⟨(f50 41 (by decide)).trans u5, fun l hl i hi => ?_⟩, RmT_fr hT (fun q hq => f50 q (by omega)) (fun c a b => fc c (by omega) (by omega)) hI.T.len, fun q hq => ?_⟩ (fun c hc => fc c (by omega) (by omega))
      · rw [hl2] at hj
        rw [mW1_c (by decide), List.getD_eq_getElem?_getD]
        by_cases q : j < z.1.length
        · rw [List.getElem?_append_left q, ← List.getD_eq_getElem?_getD, a2 j q]
          exact t2 j q
        · rw [List.getElem?_append_right (by omega), ← List.getD_eq_getElem?_getD]
          have := a3 (j - z.1.length) (by omega)
          rw [show z.1.length + (j - z.1.length) = j by omega] at this
          rw [this, List.getD_eq_getElem?_getD, List.getD_eq_getElem?_getD, List.getElem?_take_of_lt (by omega)]
      · rw [fc 79 (by decide) (by decide), fc 80 (by decide) (by decide), fc 81 (by decide) (by decide), fc 82 (by decide) (by decide)]
        exact u6 l hl i hi
      · rw [fc 83 (by decide) (by decide), fc 84 (by decide) (by decide), fc (86 + q) (by omega) (by omega)]
        exact hS q hq
    · rw [if_pos (Nat.lt_of_not_le (fun y => h (nI_le y (by decide))))] at hP
      exact hP _ _ rfl hR FrM.refl)

theorem ok_X8_feed : mOK yX8_feed cX8_feed 8 (some .int) 3 t_X8_feed := mOK.of f_X8_feed (by decide) (fun _ => rfl) (fun g => mCodeOK kk_X8_feed) (fun g => mFldL fk_RX8 rfl) (fun g idx v h => by cases h) (fun g idx v h => by cases h) (mCalL (l := l_X8_feed) (List.forall_mem_cons.mpr ⟨mSite.S (idx := 214) ok_X8_in (by decide) (by decide) wc_X8_in wk_RX8_214 wt_X8_in wn_RX8 wd_X8_in, List.forall_mem_cons.mpr ⟨mSite.S (idx := 218) ok_X8_isByte (by decide) (by decide) wc_X8_isByte wk_RX8_218 wt_X8_isByte wn_RX8 wd_X8_isByte, fun _ h => absurd h List.not_mem_nil⟩⟩) (fun _ => rfl)) run_X8_feed

def pre_X8_byteAt (q : List Int32 × Nat) (as : List mV) (M : mM) : Prop := as = [.inr (some 50), .inl (nI q.2)] ∧ RmTp M q.1 ∧ q.1.length ≤ 40 ∧ q.2 < 100
def post_X8_byteAt (q : List Int32 × Nat) (_ : List mV) (M : mM) (v : Int32) (M' : mM) : Prop := v = bA q.1 q.2 ∧ M' = M
abbrev t_X8_byteAt : mG → mT := mRi pre_X8_byteAt post_X8_byteAt
theorem mo_X8_byteAt : mMn t_X8_byteAt := mRi_mono
theorem rv_X8_byteAt : mHasR yX8_byteAt 1 t_X8_byteAt := by
  intro g as M P hT hl
  obtain ⟨q, ⟨h2, -⟩, -⟩ := hT
  exact ⟨_, _, h2, is_X8 g _ rfl⟩
def k_X8_byteAt : List (Nat × mI) := [(0, .iload_n 1, 1, 1, 0, []),
  (1, .aload_n 0, 1, 0, 0, []),
  (2, .getfield 222, 3, 0, 0, []),
  (5, .if_icmp .ge 12, 3, 17, 0, []),
  (8, .aload_n 0, 1, 0, 0, []),
  (9, .getfield 54, 3, 0, 0, []),
  (12, .iload_n 1, 1, 1, 0, []),
  (13, .iaload, 1, 0, 0, []),
  (14, .goto 4, 3, 18, 0, []),
  (17, .iconst (-1), 1, 0, -1, []),
  (18, .ireturn, 1, 0, 0, [])]
theorem kk_X8_byteAt : (k_X8_byteAt.all fun e => mChk cX8_byteAt e.1 e.2) = true := by decide +kernel
def l_X8_byteAt : List (Nat × Nat × (mG → mT)) := []
def f_X8_byteAt (g : mG) : mF := (mLk k_X8_byteAt, mLk fl_RX8, mLk (l_X8_byteAt.map fun e => (e.1, e.2.1, e.2.2 g)), mLk ([] : List (Nat × mV)), mLk ([] : List (Nat × mV)), some .int)
theorem m_X8_byteAt (g : mG) : mMono (f_X8_byteAt g) := mMonoL (g := g) (l := l_X8_byteAt) (fun _ h => absurd h List.not_mem_nil) rfl

theorem w_ba (g : mG) (M : mM) (P : mP) (k : Int32)
    (h : ((M 50 33) ≤ k → P (some (.inl (-1))) M) ∧ (¬ ((M 50 33) ≤ k) → vp_in k 40 ∧ (P (some (.inl (M 77 k.toNatClampNeg))) M))) :
    mRun (mSx g) (f_X8_byteAt g) P (0, [some (.inr (some 50)), some (.inl k)], [], M) := mRun.vc (m_X8_byteAt g) [] 10 h

theorem run_X8_byteAt : mRunOf 2 t_X8_byteAt f_X8_byteAt := fun g as M P hT => by
  obtain ⟨⟨t, k⟩, ⟨rfl, hR, hl, hk⟩, hP⟩ := hT
  refine ⟨Nat.le_of_ble_eq_true rfl, ?_⟩
  dsimp only at hR hl hk hP
  have hQ : ∀ v, v = bA t k → P (some (.inl v)) M := fun v e => hP v M ⟨e, rfl⟩
  refine w_ba g M P _ ?_
  dsimp only
  rw [hR.1, nI_clamp (by omega), nI_leI (by omega) (by omega)]
  refine ⟨fun h => hQ _ (bA_end h).symm, fun h => ⟨vp_in_nI (by omega) (by decide), hQ _ ?_⟩⟩
  rw [hR.2 k (by omega)]
  exact bA_in (by omega)
theorem ok_X8_byteAt : mOK yX8_byteAt cX8_byteAt 2 (some .int) 1 t_X8_byteAt := mOK.of f_X8_byteAt (by decide) (fun _ => rfl) (fun g => mCodeOK kk_X8_byteAt) (fun g => mFldL fk_RX8 rfl) (fun g idx v h => by cases h) (fun g idx v h => by cases h) (mCalL (l := l_X8_byteAt) (fun _ h => absurd h List.not_mem_nil) (fun _ => rfl)) run_X8_byteAt

def pre_X8_isWord (q : Nat × List Int32 × Nat × Nat) (as : List mV) (M : mM) : Prop := as = [.inr (some 50), .inr (some (1000 + q.1))] ∧ q.1 < 17 ∧ RmTp M q.2.1 ∧ q.2.1.length ≤ 40 ∧ M 50 35 = nI q.2.2.1 ∧ M 50 34 = nI q.2.2.2 ∧ q.2.2.1 ≤ q.2.2.2 ∧ q.2.2.2 ≤ q.2.1.length
def post_X8_isWord (q : Nat × List Int32 × Nat × Nat) (_ : List mV) (M : mM) (v : Int32) (M' : mM) : Prop := v = mb (dTx q.2.1 q.1 q.2.2.1 q.2.2.2 = true) ∧ M' = M
abbrev t_X8_isWord : mG → mT := mRi pre_X8_isWord post_X8_isWord
theorem mo_X8_isWord : mMn t_X8_isWord := mRi_mono
theorem rv_X8_isWord : mHasR yX8_isWord 1 t_X8_isWord := by
  intro g as M P hT hl
  obtain ⟨q, ⟨h2, -⟩, -⟩ := hT
  exact ⟨_, _, h2, is_X8 g _ rfl⟩
def k_X8_isWord : List (Nat × mI) := [(0, .aload_n 1, 1, 1, 0, []),
  (1, .invokevirtual 225, 3, 0, 0, []),
  (4, .aload_n 0, 1, 0, 0, []),
  (5, .getfield 230, 3, 0, 0, []),
  (8, .aload_n 0, 1, 0, 0, []),
  (9, .getfield 233, 3, 0, 0, []),
  (12, .isub, 1, 0, 0, []),
  (13, .if_icmp .eq 5, 3, 18, 0, []),
  (16, .iconst 0, 1, 0, nI 0, []),
  (17, .ireturn, 1, 0, 0, []),
  (18, .iconst 0, 1, 0, nI 0, []),
  (19, .istore_n 2, 1, 2, 0, []),
  (20, .iload_n 2, 1, 2, 0, []),
  (21, .aload_n 1, 1, 1, 0, []),
  (22, .invokevirtual 225, 3, 0, 0, []),
  (25, .if_icmp .ge 29, 3, 54, 0, []),
  (28, .aload_n 1, 1, 1, 0, []),
  (29, .iload_n 2, 1, 2, 0, []),
  (30, .invokevirtual 236, 3, 0, 0, []),
  (33, .aload_n 0, 1, 0, 0, []),
  (34, .aload_n 0, 1, 0, 0, []),
  (35, .getfield 233, 3, 0, 0, []),
  (38, .iload_n 2, 1, 2, 0, []),
  (39, .iadd, 1, 0, 0, []),
  (40, .invokevirtual 240, 3, 0, 0, []),
  (43, .if_icmp .eq 5, 3, 48, 0, []),
  (46, .iconst 0, 1, 0, nI 0, []),
  (47, .ireturn, 1, 0, 0, []),
  (48, .iinc 2 1, 3, 2, nI 1, []),
  (51, .goto (-31), 3, 20, 0, []),
  (54, .iconst 1, 1, 0, nI 1, []),
  (55, .ireturn, 1, 0, 0, [])]
theorem kk_X8_isWord : (k_X8_isWord.all fun e => mChk cX8_isWord e.1 e.2) = true := by decide +kernel
def l_X8_isWord : List (Nat × Nat × (mG → mT)) := [(3 * 225, 0 + 1, t_J0_length_8abf5), (3 * 236, 1 + 1, t_J0_charAt_5068e), (3 * 240, 1 + 1, t_X8_byteAt)]
def f_X8_isWord (g : mG) : mF := (mLk k_X8_isWord, mLk fl_RX8, mLk (l_X8_isWord.map fun e => (e.1, e.2.1, e.2.2 g)), mLk ([] : List (Nat × mV)), mLk ([] : List (Nat × mV)), some .boolean)
theorem m_X8_isWord (g : mG) : mMono (f_X8_isWord g) := mMonoL (g := g) (l := l_X8_isWord) (List.forall_mem_cons.mpr ⟨mo_J0_length_8abf5, List.forall_mem_cons.mpr ⟨mo_J0_charAt_5068e, List.forall_mem_cons.mpr ⟨mo_X8_byteAt, fun _ h => absurd h List.not_mem_nil⟩⟩⟩) rfl

theorem w_iw_0 (g : mG) (M : mM) (P : mP) (w : Nat)
    (h : ∃ x1 : Nat, pre_J0_length_8abf5 x1 [.inr (some (1000 + w))] M ∧ ∀ (r3 : Int32) (M2 : mM), post_J0_length_8abf5 x1 [.inr (some (1000 + w))] M r3 M2 → ((r3 = ((M2 50 34) - (M2 50 35)) → mRun (mSx g) (f_X8_isWord g) P (20, [some (.inr (some 50)), some (.inr (some (1000 + w))), some (.inl (nI 0))], [], M2)) ∧ (¬ (r3 = ((M2 50 34) - (M2 50 35))) → ((nI 0) = 0 ∨ (nI 0) = 1) ∧ P (some (.inl (nI 0))) M2))) :
    mRun (mSx g) (f_X8_isWord g) P (0, [some (.inr (some 50)), some (.inr (some (1000 + w))), none], [], M) := mRun.vc (m_X8_isWord g) [20] 11 h

theorem w_iw_20 (g : mG) (M : mM) (P : mP) (w : Nat) (i : Int32)
    (h : ∃ x1 : Nat, pre_J0_length_8abf5 x1 [.inr (some (1000 + w))] M ∧ ∀ (r3 : Int32) (M2 : mM), post_J0_length_8abf5 x1 [.inr (some (1000 + w))] M r3 M2 → ((r3 ≤ i → ((nI 1) = 0 ∨ (nI 1) = 1) ∧ P (some (.inl (nI 1))) M2) ∧ (¬ (r3 ≤ i) → ∃ x5 : Nat × Nat, pre_J0_charAt_5068e x5 [.inr (some (1000 + w)), .inl i] M2 ∧ ∀ (r7 : Int32) (M6 : mM), post_J0_charAt_5068e x5 [.inr (some (1000 + w)), .inl i] M2 r7 M6 → (∃ x8 : List Int32 × Nat, pre_X8_byteAt x8 [.inr (some 50), .inl ((M6 50 35) + i)] M6 ∧ ∀ (r10 : Int32) (M9 : mM), post_X8_byteAt x8 [.inr (some 50), .inl ((M6 50 35) + i)] M6 r10 M9 → ((r7 = r10 → mRun (mSx g) (f_X8_isWord g) P (20, [some (.inr (some 50)), some (.inr (some (1000 + w))), some (.inl (i + (nI 1)))], [], M9)) ∧ (¬ (r7 = r10) → ((nI 0) = 0 ∨ (nI 0) = 1) ∧ P (some (.inl (nI 0))) M9)))))) :
    mRun (mSx g) (f_X8_isWord g) P (20, [some (.inr (some 50)), some (.inr (some (1000 + w))), some (.inl i)], [], M) := mRun.vc (m_X8_isWord g) [20] 17 h

theorem iw_20 (g : mG) (P : mP) (M : mM) (w : Nat) (t : List Int32) (a : Nat) (hw : w < 17) (hR : RmTp M t) (hl : t.length ≤ 40) (ha : a ≤ 40) (e35 : M 50 35 = nI a) (hP : ∀ b : Bool, b = fA (fun j => decide (bA t (a + j) = (wB w).getD j 0)) (wB w).length 0 → P (some (.inl (mb (b = true)))) M) :
    ∀ (n i : Nat), i + n = (wB w).length → fA (fun j => decide (bA t (a + j) = (wB w).getD j 0)) (wB w).length 0 = fA (fun j => decide (bA t (a + j) = (wB w).getD j 0)) n i → mRun (mSx g) (f_X8_isWord g) P (20, [some (.inr (some 50)), some (.inr (some (1000 + w))), some (.inl (nI i))], [], M)
  | 0, i, hi, hf => by
    have h8 := wB_len w hw
    refine w_iw_20 g M P w _ ⟨w, ⟨hw, rfl⟩, fun r M2 hr => ?_⟩
    obtain ⟨rfl, rfl⟩ := hr
    obtain rfl : i = (wB w).length := by omega
    exact ⟨fun _ => ⟨Or.inr rfl, hP true hf.symm⟩, fun q => absurd (nI_le (Nat.le_refl _) (by omega)) q⟩
  | n + 1, i, hi, hf => by
    have h8 := wB_len w hw
    refine w_iw_20 g M P w _ ⟨w, ⟨hw, rfl⟩, fun r M2 hr => ?_⟩
    obtain ⟨rfl, rfl⟩ := hr
    refine ⟨fun q => absurd q (nI_ge (by omega) (by omega)), fun _ => ⟨(w, i), ⟨hw, rfl, by show i < (wB w).length; omega⟩, fun r M6 hr => ?_⟩⟩
    obtain ⟨rfl, rfl⟩ := hr
    rw [e35, nI_add, nI_add]
    refine ⟨(t, a + i), ⟨rfl, hR, hl, by show a + i < 100; omega⟩, fun r M9 hr => ?_⟩
    obtain ⟨rfl, rfl⟩ := hr
    rw [fA] at hf
    dsimp only
    refine ⟨fun q => ?_, fun q => ⟨Or.inl rfl, ?_⟩⟩
    · refine iw_20 g P M9 w t a hw hR hl ha e35 hP n (i + 1) (by omega) ?_
      rw [hf, decide_eq_true q.symm, Bool.true_and]
    · refine hP false ?_
      rw [hf, decide_eq_false (fun y => q y.symm), Bool.false_and]
theorem run_X8_isWord : mRunOf 3 t_X8_isWord f_X8_isWord := fun g as M P hT => by
  obtain ⟨⟨w, t, a, e⟩, ⟨rfl, hw, hR, hl, e35, e34, hae, hel⟩, hP⟩ := hT
  refine ⟨Nat.le_of_ble_eq_true rfl, ?_⟩
  dsimp only at hw hR hl e35 e34 hae hel hP
  have h8 := wB_len w hw
  have hQ : ∀ b : Bool, b = dTx t w a e → P (some (.inl (mb (b = true)))) M := fun b h => hP _ M ⟨by rw [h], rfl⟩
  refine w_iw_0 g M P w ⟨w, ⟨hw, rfl⟩, fun r M2 hr => ?_⟩
  obtain ⟨rfl, rfl⟩ := hr
  rw [e34, e35, pk_sub hae, nI_eq (by omega) (by omega)]
  refine ⟨fun q => ?_, fun q => ⟨Or.inl rfl, ?_⟩⟩
  · refine iw_20 g P M2 w t a hw hR hl (by omega) e35 (fun b h => hQ b ?_) (wB w).length 0 (Nat.zero_add _) rfl
    unfold dTx
    rw [decide_eq_true q.symm, Bool.true_and]
    exact h
  · refine hQ false ?_
    unfold dTx
    rw [decide_eq_false (fun y => q y.symm), Bool.false_and]
theorem ok_X8_isWord : mOK yX8_isWord cX8_isWord 3 (some .boolean) 5 t_X8_isWord := mOK.of f_X8_isWord (by decide) (fun _ => rfl) (fun g => mCodeOK kk_X8_isWord) (fun g => mFldL fk_RX8 rfl) (fun g idx v h => by cases h) (fun g idx v h => by cases h) (mCalL (l := l_X8_isWord) (List.forall_mem_cons.mpr ⟨mSite.V (idx := 225) ok_J0_length_8abf5 (by decide) (by decide) rv_J0_length_8abf5 wc_J0_length_8abf5 wk_RX8_225 wi_J0_length_8abf5 wl_J0_length_8abf5 wn_RJ0 wd_J0_length_8abf5, List.forall_mem_cons.mpr ⟨mSite.V (idx := 236) ok_J0_charAt_5068e (by decide) (by decide) rv_J0_charAt_5068e wc_J0_charAt_5068e wk_RX8_236 wi_J0_charAt_5068e wl_J0_charAt_5068e wn_RJ0 wd_J0_charAt_5068e, List.forall_mem_cons.mpr ⟨mSite.V (idx := 240) ok_X8_byteAt (by decide) (by decide) rv_X8_byteAt wc_X8_byteAt wk_RX8_240 wi_X8_byteAt wl_X8_byteAt wn_RX8 wd_X8_byteAt, fun _ h => absurd h List.not_mem_nil⟩⟩⟩) (fun _ => rfl)) run_X8_isWord

def lWd (t : List Int32) (a e : Nat) : Option Nat := fO (fun w => !dTx t w a e) 9 0
def lSu (t : List Int32) (a e : Nat) : Option Nat := if e - a = 1 then ltr (bA t a) 5 else none
def pre_X8_wordRead (q : List Int32 × Nat × Nat) (as : List mV) (M : mM) : Prop := as = [.inr (some 50)] ∧ RmTp M q.1 ∧ q.1.length ≤ 40 ∧ M 50 35 = nI q.2.1 ∧ M 50 34 = nI q.2.2 ∧ q.2.1 ≤ q.2.2 ∧ q.2.2 ≤ q.1.length
def post_X8_wordRead (q : List Int32 × Nat × Nat) (_ : List mV) (M : mM) (v : Int32) (M' : mM) : Prop := v = oI (lWd q.1 q.2.1 q.2.2) ∧ M' = M
abbrev t_X8_wordRead : mG → mT := mRi pre_X8_wordRead post_X8_wordRead
theorem mo_X8_wordRead : mMn t_X8_wordRead := mRi_mono
theorem rv_X8_wordRead : mHasR yX8_wordRead 0 t_X8_wordRead := by
  intro g as M P hT hl
  obtain ⟨q, ⟨h2, -⟩, -⟩ := hT
  exact ⟨_, _, h2, is_X8 g _ rfl⟩
def k_X8_wordRead : List (Nat × mI) := [(0, .iconst 0, 1, 0, nI 0, []),
  (1, .istore_n 1, 1, 1, 0, []),
  (2, .iload_n 1, 1, 1, 0, []),
  (3, .bipush 9, 2, 0, nI 9, []),
  (5, .if_icmp .ge 22, 3, 27, 0, []),
  (8, .aload_n 0, 1, 0, 0, []),
  (9, .iload_n 1, 1, 1, 0, []),
  (10, .invokestatic 259, 3, 0, 0, []),
  (13, .invokevirtual 263, 3, 0, 0, []),
  (16, .ifCond .eq 5, 3, 21, 0, []),
  (19, .iload_n 1, 1, 1, 0, []),
  (20, .ireturn, 1, 0, 0, []),
  (21, .iinc 1 1, 3, 1, nI 1, []),
  (24, .goto (-22), 3, 2, 0, []),
  (27, .iconst (-1), 1, 0, -1, []),
  (28, .ireturn, 1, 0, 0, [])]
theorem kk_X8_wordRead : (k_X8_wordRead.all fun e => mChk cX8_wordRead e.1 e.2) = true := by decide +kernel
def l_X8_wordRead : List (Nat × Nat × (mG → mT)) := [(3 * 259 + 1, 1, t_X8_wordOf), (3 * 263, 1 + 1, t_X8_isWord)]
def f_X8_wordRead (g : mG) : mF := (mLk k_X8_wordRead, mLk fl_RX8, mLk (l_X8_wordRead.map fun e => (e.1, e.2.1, e.2.2 g)), mLk ([] : List (Nat × mV)), mLk ([] : List (Nat × mV)), some .int)
theorem m_X8_wordRead (g : mG) : mMono (f_X8_wordRead g) := mMonoL (g := g) (l := l_X8_wordRead) (List.forall_mem_cons.mpr ⟨mo_X8_wordOf, List.forall_mem_cons.mpr ⟨mo_X8_isWord, fun _ h => absurd h List.not_mem_nil⟩⟩) rfl

theorem w_wr_0 (g : mG) (M : mM) (P : mP) 
    (h : mRun (mSx g) (f_X8_wordRead g) P (2, [some (.inr (some 50)), some (.inl (nI 0))], [], M)) :
    mRun (mSx g) (f_X8_wordRead g) P (0, [some (.inr (some 50)), none], [], M) := mRun.vc (m_X8_wordRead g) [2] 3 h

theorem w_wr_2 (g : mG) (M : mM) (P : mP) (i : Int32)
    (h : ((nI 9) ≤ i → P (some (.inl (-1))) M) ∧ (¬ ((nI 9) ≤ i) → t_X8_wordOf g [.inl i] M (fun r M2 => mRun (mSx g) (f_X8_wordRead g) P (13, [some (.inr (some 50)), some (.inl i)], mRes r [.inr (some 50)], M2)))) :
    mRun (mSx g) (f_X8_wordRead g) P (2, [some (.inr (some 50)), some (.inl i)], [], M) := mRun.vc (m_X8_wordRead g) [13] 6 h

theorem w_wr_13 (g : mG) (M : mM) (P : mP) (w : Nat) (i : Int32)
    (h : ∃ x1 : Nat × List Int32 × Nat × Nat, pre_X8_isWord x1 [.inr (some 50), .inr (some (1000 + w))] M ∧ ∀ (r3 : Int32) (M2 : mM), post_X8_isWord x1 [.inr (some 50), .inr (some (1000 + w))] M r3 M2 → ((r3 = 0 → mRun (mSx g) (f_X8_wordRead g) P (2, [some (.inr (some 50)), some (.inl (i + (nI 1)))], [], M2)) ∧ (¬ (r3 = 0) → P (some (.inl i)) M2))) :
    mRun (mSx g) (f_X8_wordRead g) P (13, [some (.inr (some 50)), some (.inl i)], [.inr (some (1000 + w)), .inr (some 50)], M) := mRun.vc (m_X8_wordRead g) [2] 5 h

theorem wo_at {g : mG} {w : Nat} {M : mM} {P : mP} (hw : w < 9) (h : P (some (.inr (some (1000 + w)))) M) : t_X8_wordOf g [.inl (nI w)] M P := by
  rcases (by omega : w = 0 ∨ w = 1 ∨ w = 2 ∨ w = 3 ∨ w = 4 ∨ w = 5 ∨ w = 6 ∨ w = 7 ∨ w = 8) with rfl | rfl | rfl | rfl | rfl | rfl | rfl | rfl | rfl
  · exact ⟨fun _ => h, fun z => absurd rfl z⟩
  · exact ⟨fun z => absurd z (by decide), fun _ => ⟨fun _ => h, fun z => absurd rfl z⟩⟩
  · exact ⟨fun z => absurd z (by decide), fun _ => ⟨fun z => absurd z (by decide), fun _ => ⟨fun _ => h, fun z => absurd rfl z⟩⟩⟩
  · exact ⟨fun z => absurd z (by decide), fun _ => ⟨fun z => absurd z (by decide), fun _ => ⟨fun z => absurd z (by decide), fun _ => ⟨fun _ => h, fun z => absurd rfl z⟩⟩⟩⟩
  · exact ⟨fun z => absurd z (by decide), fun _ => ⟨fun z => absurd z (by decide), fun _ => ⟨fun z => absurd z (by decide), fun _ => ⟨fun z => absurd z (by decide), fun _ => ⟨fun _ => h, fun z => absurd rfl z⟩⟩⟩⟩⟩
  · exact ⟨fun z => absurd z (by decide), fun _ => ⟨fun z => absurd z (by decide), fun _ => ⟨fun z => absurd z (by decide), fun _ => ⟨fun z => absurd z (by decide), fun _ => ⟨fun z => absurd z (by decide), fun _ => ⟨fun _ => h, fun z => absurd rfl z⟩⟩⟩⟩⟩⟩
  · exact ⟨fun z => absurd z (by decide), fun _ => ⟨fun z => absurd z (by decide), fun _ => ⟨fun z => absurd z (by decide), fun _ => ⟨fun z => absurd z (by decide), fun _ => ⟨fun z => absurd z (by decide), fun _ => ⟨fun z => absurd z (by decide), fun _ => ⟨fun _ => h, fun z => absurd rfl z⟩⟩⟩⟩⟩⟩⟩
  · exact ⟨fun z => absurd z (by decide), fun _ => ⟨fun z => absurd z (by decide), fun _ => ⟨fun z => absurd z (by decide), fun _ => ⟨fun z => absurd z (by decide), fun _ => ⟨fun z => absurd z (by decide), fun _ => ⟨fun z => absurd z (by decide), fun _ => ⟨fun z => absurd z (by decide), fun _ => ⟨fun _ => h, fun z => absurd rfl z⟩⟩⟩⟩⟩⟩⟩⟩
  · exact ⟨fun z => absurd z (by decide), fun _ => ⟨fun z => absurd z (by decide), fun _ => ⟨fun z => absurd z (by decide), fun _ => ⟨fun z => absurd z (by decide), fun _ => ⟨fun z => absurd z (by decide), fun _ => ⟨fun z => absurd z (by decide), fun _ => ⟨fun z => absurd z (by decide), fun _ => ⟨fun z => absurd z (by decide), fun _ => h⟩⟩⟩⟩⟩⟩⟩⟩
theorem wr_2 (g : mG) (P : mP) (M : mM) (t : List Int32) (a e : Nat) (hR : RmTp M t) (hl : t.length ≤ 40) (e35 : M 50 35 = nI a) (e34 : M 50 34 = nI e) (hae : a ≤ e) (hel : e ≤ t.length) (hP : P (some (.inl (oI (lWd t a e)))) M) :
    ∀ (n w : Nat), w + n = 9 → lWd t a e = fO (fun w => !dTx t w a e) n w → mRun (mSx g) (f_X8_wordRead g) P (2, [some (.inr (some 50)), some (.inl (nI w))], [], M)
  | 0, w, hw, hf => by
    obtain rfl : w = 9 := by omega
    rw [hf] at hP
    exact w_wr_2 g M P _ ⟨fun _ => hP, fun q => absurd (nI_le (Nat.le_refl 9) (by decide)) q⟩
  | n + 1, w, hw, hf => by
    refine w_wr_2 g M P _ ⟨fun q => absurd q (nI_ge (by omega) (by decide)), fun _ => wo_at (by omega) (w_wr_13 g M P w _ ⟨(w, t, a, e), ⟨rfl, by show w < 17; omega, hR, hl, e35, e34, hae, hel⟩, fun r M2 hr => ?_⟩)⟩
    obtain ⟨rfl, rfl⟩ := hr
    dsimp only
    rw [fO] at hf
    rw [mb_0, nI_add]
    refine ⟨fun q => ?_, fun q => ?_⟩
    · refine wr_2 g P M2 t a e hR hl e35 e34 hae hel hP n (w + 1) (by omega) ?_
      rw [hf, if_pos (by simp [q])]
    · rw [hf, if_neg (by simp [Classical.not_not.mp q])] at hP
      exact hP
theorem run_X8_wordRead : mRunOf 2 t_X8_wordRead f_X8_wordRead := fun g as M P hT => by
  obtain ⟨⟨t, a, e⟩, ⟨rfl, hR, hl, e35, e34, hae, hel⟩, hP⟩ := hT
  refine ⟨Nat.le_of_ble_eq_true rfl, ?_⟩
  dsimp only at hR hl e35 e34 hae hel hP
  exact w_wr_0 g M P (wr_2 g P M t a e hR hl e35 e34 hae hel (hP _ M ⟨rfl, rfl⟩) 9 0 rfl rfl)
theorem ok_X8_wordRead : mOK yX8_wordRead cX8_wordRead 2 (some .int) 6 t_X8_wordRead := mOK.of f_X8_wordRead (by decide) (fun _ => rfl) (fun g => mCodeOK kk_X8_wordRead) (fun g => mFldL fk_RX8 rfl) (fun g idx v h => by cases h) (fun g idx v h => by cases h) (mCalL (l := l_X8_wordRead) (List.forall_mem_cons.mpr ⟨mSite.S (idx := 259) ok_X8_wordOf (by decide) (by decide) wc_X8_wordOf wk_RX8_259 wt_X8_wordOf wn_RX8 wd_X8_wordOf, List.forall_mem_cons.mpr ⟨mSite.V (idx := 263) ok_X8_isWord (by decide) (by decide) rv_X8_isWord wc_X8_isWord wk_RX8_263 wi_X8_isWord wl_X8_isWord wn_RX8 wd_X8_isWord, fun _ h => absurd h List.not_mem_nil⟩⟩) (fun _ => rfl)) run_X8_wordRead

def pre_X8_suitRead (q : List Int32 × Nat × Nat) (as : List mV) (M : mM) : Prop := as = [.inr (some 50)] ∧ RmTp M q.1 ∧ q.1.length ≤ 40 ∧ M 50 35 = nI q.2.1 ∧ M 50 34 = nI q.2.2 ∧ q.2.1 ≤ q.2.2 ∧ q.2.2 ≤ q.1.length
def post_X8_suitRead (q : List Int32 × Nat × Nat) (_ : List mV) (M : mM) (v : Int32) (M' : mM) : Prop := v = oI (lSu q.1 q.2.1 q.2.2) ∧ M' = M
abbrev t_X8_suitRead : mG → mT := mRi pre_X8_suitRead post_X8_suitRead
theorem mo_X8_suitRead : mMn t_X8_suitRead := mRi_mono
theorem rv_X8_suitRead : mHasR yX8_suitRead 0 t_X8_suitRead := by
  intro g as M P hT hl
  obtain ⟨q, ⟨h2, -⟩, -⟩ := hT
  exact ⟨_, _, h2, is_X8 g _ rfl⟩
def k_X8_suitRead : List (Nat × mI) := [(0, .aload_n 0, 1, 0, 0, []),
  (1, .ldc_w 267, 3, 0, 0, []),
  (4, .invokevirtual 263, 3, 0, 0, []),
  (7, .ifCond .eq 7, 3, 14, 0, []),
  (10, .iconst 0, 1, 0, nI 0, []),
  (11, .goto 60, 3, 71, 0, []),
  (14, .aload_n 0, 1, 0, 0, []),
  (15, .ldc_w 269, 3, 0, 0, []),
  (18, .invokevirtual 263, 3, 0, 0, []),
  (21, .ifCond .eq 7, 3, 28, 0, []),
  (24, .iconst 1, 1, 0, nI 1, []),
  (25, .goto 46, 3, 71, 0, []),
  (28, .aload_n 0, 1, 0, 0, []),
  (29, .ldc_w 271, 3, 0, 0, []),
  (32, .invokevirtual 263, 3, 0, 0, []),
  (35, .ifCond .eq 7, 3, 42, 0, []),
  (38, .iconst 2, 1, 0, nI 2, []),
  (39, .goto 32, 3, 71, 0, []),
  (42, .aload_n 0, 1, 0, 0, []),
  (43, .ldc_w 273, 3, 0, 0, []),
  (46, .invokevirtual 263, 3, 0, 0, []),
  (49, .ifCond .eq 7, 3, 56, 0, []),
  (52, .iconst 3, 1, 0, nI 3, []),
  (53, .goto 18, 3, 71, 0, []),
  (56, .aload_n 0, 1, 0, 0, []),
  (57, .ldc_w 275, 3, 0, 0, []),
  (60, .invokevirtual 263, 3, 0, 0, []),
  (63, .ifCond .eq 7, 3, 70, 0, []),
  (66, .iconst 4, 1, 0, nI 4, []),
  (67, .goto 4, 3, 71, 0, []),
  (70, .iconst (-1), 1, 0, -1, []),
  (71, .ireturn, 1, 0, 0, [])]
theorem kk_X8_suitRead : (k_X8_suitRead.all fun e => mChk cX8_suitRead e.1 e.2) = true := by decide +kernel
def l_X8_suitRead : List (Nat × Nat × (mG → mT)) := [(3 * 263, 1 + 1, t_X8_isWord)]
def f_X8_suitRead (g : mG) : mF := (mLk k_X8_suitRead, mLk fl_RX8, mLk (l_X8_suitRead.map fun e => (e.1, e.2.1, e.2.2 g)), mLk cs_RX8, mLk ([] : List (Nat × mV)), some .int)
theorem m_X8_suitRead (g : mG) : mMono (f_X8_suitRead g) := mMonoL (g := g) (l := l_X8_suitRead) (List.forall_mem_cons.mpr ⟨mo_X8_isWord, fun _ h => absurd h List.not_mem_nil⟩) rfl

theorem w_su (g : mG) (M : mM) (P : mP) 
    (h : ∃ x1 : Nat × List Int32 × Nat × Nat, pre_X8_isWord x1 [.inr (some 50), .inr (some 1010)] M ∧ ∀ (r3 : Int32) (M2 : mM), post_X8_isWord x1 [.inr (some 50), .inr (some 1010)] M r3 M2 → ((r3 = 0 → ∃ x5 : Nat × List Int32 × Nat × Nat, pre_X8_isWord x5 [.inr (some 50), .inr (some 1011)] M2 ∧ ∀ (r7 : Int32) (M6 : mM), post_X8_isWord x5 [.inr (some 50), .inr (some 1011)] M2 r7 M6 → ((r7 = 0 → ∃ x9 : Nat × List Int32 × Nat × Nat, pre_X8_isWord x9 [.inr (some 50), .inr (some 1012)] M6 ∧ ∀ (r11 : Int32) (M10 : mM), post_X8_isWord x9 [.inr (some 50), .inr (some 1012)] M6 r11 M10 → ((r11 = 0 → ∃ x13 : Nat × List Int32 × Nat × Nat, pre_X8_isWord x13 [.inr (some 50), .inr (some 1013)] M10 ∧ ∀ (r15 : Int32) (M14 : mM), post_X8_isWord x13 [.inr (some 50), .inr (some 1013)] M10 r15 M14 → ((r15 = 0 → ∃ x17 : Nat × List Int32 × Nat × Nat, pre_X8_isWord x17 [.inr (some 50), .inr (some 1014)] M14 ∧ ∀ (r19 : Int32) (M18 : mM), post_X8_isWord x17 [.inr (some 50), .inr (some 1014)] M14 r19 M18 → ((r19 = 0 → P (some (.inl (-1))) M18) ∧ (¬ (r19 = 0) → P (some (.inl (nI 4))) M18))) ∧ (¬ (r15 = 0) → P (some (.inl (nI 3))) M14))) ∧ (¬ (r11 = 0) → P (some (.inl (nI 2))) M10))) ∧ (¬ (r7 = 0) → P (some (.inl (nI 1))) M6))) ∧ (¬ (r3 = 0) → P (some (.inl (nI 0))) M2))) :
    mRun (mSx g) (f_X8_suitRead g) P (0, [some (.inr (some 50))], [], M) := mRun.vc (m_X8_suitRead g) [] 23 h

theorem dTx_1 {t : List Int32} {w a e : Nat} {b : Int32} (hw : wB w = [b]) : dTx t w a e = true ↔ e - a = 1 ∧ bA t a = b := by
  unfold dTx
  rw [hw]
  show (decide (e - a = 1) && (decide (bA t (a + 0) = b) && true)) = true ↔ _
  rw [Bool.and_true, Bool.and_eq_true, decide_eq_true_eq, decide_eq_true_eq, Nat.add_zero]
theorem lSu_at {t : List Int32} {a e : Nat} : lSu t a e = if e - a = 1 ∧ bA t a = nI 99 then some 0 else if e - a = 1 ∧ bA t a = nI 100 then some 1 else if e - a = 1 ∧ bA t a = nI 104 then some 2 else if e - a = 1 ∧ bA t a = nI 115 then some 3 else if e - a = 1 ∧ bA t a = nI 110 then some 4 else none := by
  unfold lSu
  by_cases h : e - a = 1
  · rw [if_pos h]
    simp only [h, true_and, ltr]
    rw [show fLetter (nI 0) = nI 99 by decide, show fLetter (nI 1) = nI 100 by decide, show fLetter (nI 2) = nI 104 by decide, show fLetter (nI 3) = nI 115 by decide, show fLetter (nI 4) = nI 110 by decide]
    by_cases h0 : bA t a = nI 99
    · rw [h0]; decide
    by_cases h1 : bA t a = nI 100
    · rw [h1]; decide
    by_cases h2 : bA t a = nI 104
    · rw [h2]; decide
    by_cases h3 : bA t a = nI 115
    · rw [h3]; decide
    rw [if_neg h0, if_neg h1, if_neg h2, if_neg h3, if_neg h0, if_neg h1, if_neg h2, if_neg h3]
  · rw [if_neg h]
    simp only [h, false_and, if_false]
theorem run_X8_suitRead : mRunOf 1 t_X8_suitRead f_X8_suitRead := fun g as M P hT => by
  obtain ⟨⟨t, a, e⟩, ⟨rfl, hR, hl, e35, e34, hae, hel⟩, hP⟩ := hT
  refine ⟨Nat.le_of_ble_eq_true rfl, ?_⟩
  dsimp only at hR hl e35 e34 hae hel hP
  have hQ : ∀ v, v = oI (lSu t a e) → P (some (.inl v)) M := fun v h => hP v M ⟨h, rfl⟩
  rw [lSu_at] at hQ
  have c0 := dTx_1 (t := t) (w := 10) (a := a) (e := e) (b := nI 99) (by decide)
  have c1 := dTx_1 (t := t) (w := 11) (a := a) (e := e) (b := nI 100) (by decide)
  have c2 := dTx_1 (t := t) (w := 12) (a := a) (e := e) (b := nI 104) (by decide)
  have c3 := dTx_1 (t := t) (w := 13) (a := a) (e := e) (b := nI 115) (by decide)
  have c4 := dTx_1 (t := t) (w := 14) (a := a) (e := e) (b := nI 110) (by decide)
  refine w_su g M P ⟨(10, t, a, e), ⟨rfl, (show 10 < 17 by decide), hR, hl, e35, e34, hae, hel⟩, fun r M2 hr => ?_⟩
  obtain ⟨hr, rfl⟩ := hr
  rw [show r = mb (dTx t 10 a e = true) from hr, mb_0, c0]
  refine ⟨fun n0 => ?_, fun n0 => hQ _ (by rw [if_pos (Classical.not_not.mp n0)]; rfl)⟩
  refine ⟨(11, t, a, e), ⟨rfl, (show 11 < 17 by decide), hR, hl, e35, e34, hae, hel⟩, fun r M2 hr => ?_⟩
  obtain ⟨hr, rfl⟩ := hr
  rw [show r = mb (dTx t 11 a e = true) from hr, mb_0, c1]
  refine ⟨fun n1 => ?_, fun n1 => hQ _ (by rw [if_neg n0, if_pos (Classical.not_not.mp n1)]; rfl)⟩
  refine ⟨(12, t, a, e), ⟨rfl, (show 12 < 17 by decide), hR, hl, e35, e34, hae, hel⟩, fun r M2 hr => ?_⟩
  obtain ⟨hr, rfl⟩ := hr
  rw [show r = mb (dTx t 12 a e = true) from hr, mb_0, c2]
  refine ⟨fun n2 => ?_, fun n2 => hQ _ (by rw [if_neg n0, if_neg n1, if_pos (Classical.not_not.mp n2)]; rfl)⟩
  refine ⟨(13, t, a, e), ⟨rfl, (show 13 < 17 by decide), hR, hl, e35, e34, hae, hel⟩, fun r M2 hr => ?_⟩
  obtain ⟨hr, rfl⟩ := hr
  rw [show r = mb (dTx t 13 a e = true) from hr, mb_0, c3]
  refine ⟨fun n3 => ?_, fun n3 => hQ _ (by rw [if_neg n0, if_neg n1, if_neg n2, if_pos (Classical.not_not.mp n3)]; rfl)⟩
  refine ⟨(14, t, a, e), ⟨rfl, (show 14 < 17 by decide), hR, hl, e35, e34, hae, hel⟩, fun r M2 hr => ?_⟩
  obtain ⟨hr, rfl⟩ := hr
  rw [show r = mb (dTx t 14 a e = true) from hr, mb_0, c4]
  exact ⟨fun n4 => hQ _ (by rw [if_neg n0, if_neg n1, if_neg n2, if_neg n3, if_neg n4]; rfl), fun n4 => hQ _ (by rw [if_neg n0, if_neg n1, if_neg n2, if_neg n3, if_pos (Classical.not_not.mp n4)]; rfl)⟩
theorem ok_X8_suitRead : mOK yX8_suitRead cX8_suitRead 1 (some .int) 6 t_X8_suitRead := mOK.of f_X8_suitRead (by decide) (fun _ => rfl) (fun g => mCodeOK kk_X8_suitRead) (fun g => mFldL fk_RX8 rfl) (mCstL ck_RX8 (fun _ => rfl)) (fun g idx v h => by cases h) (mCalL (l := l_X8_suitRead) (List.forall_mem_cons.mpr ⟨mSite.V (idx := 263) ok_X8_isWord (by decide) (by decide) rv_X8_isWord wc_X8_isWord wk_RX8_263 wi_X8_isWord wl_X8_isWord wn_RX8 wd_X8_isWord, fun _ h => absurd h List.not_mem_nil⟩) (fun _ => rfl)) run_X8_suitRead

