/-! ===== THE REFERENCE: trick, open, gains, best ===== -/
abbrev t_X8_trick : mG → mT := pubM 2 F_trick
theorem mo_X8_trick : mMn t_X8_trick := pubM_mono
theorem rv_X8_trick : mHasR yX8_trick 2 t_X8_trick := pubM_recv rfl
def k_X8_trick : List (Nat × mI) := [(0, .iload_n 2, 1, 2, 0, []),
  (1, .iconst 0, 1, 0, nI 0, []),
  (2, .bipush 6, 2, 0, nI 6, []),
  (4, .invokestatic 214, 3, 0, 0, []),
  (7, .ifCond .ne 6, 3, 13, 0, []),
  (10, .bipush (-2), 2, 0, -2, []),
  (12, .ireturn, 1, 0, 0, []),
  (13, .iload_n 1, 1, 1, 0, []),
  (14, .iconst 0, 1, 0, nI 0, []),
  (15, .bipush 7, 2, 0, nI 7, []),
  (17, .invokestatic 214, 3, 0, 0, []),
  (20, .ifCond .eq 28, 3, 48, 0, []),
  (23, .aload_n 0, 1, 0, 0, []),
  (24, .getfield 36, 3, 0, 0, []),
  (27, .iload_n 1, 1, 1, 0, []),
  (28, .iaload, 1, 0, 0, []),
  (29, .ifCond .ne 22, 3, 51, 0, []),
  (32, .aload_n 0, 1, 0, 0, []),
  (33, .getfield 100, 3, 0, 0, []),
  (36, .iconst 2, 1, 0, nI 2, []),
  (37, .if_icmp .ne 11, 3, 48, 0, []),
  (40, .iload_n 1, 1, 1, 0, []),
  (41, .aload_n 0, 1, 0, 0, []),
  (42, .getfield 97, 3, 0, 0, []),
  (45, .if_icmp .eq 6, 3, 51, 0, []),
  (48, .bipush (-12), 2, 0, -12, []),
  (50, .ireturn, 1, 0, 0, []),
  (51, .iload_n 2, 1, 2, 0, []),
  (52, .ifCond .ne 10, 3, 62, 0, []),
  (55, .aload_n 0, 1, 0, 0, []),
  (56, .getfield 33, 3, 0, 0, []),
  (59, .iload_n 1, 1, 1, 0, []),
  (60, .iaload, 1, 0, 0, []),
  (61, .ireturn, 1, 0, 0, []),
  (62, .iload_n 2, 1, 2, 0, []),
  (63, .iconst 5, 1, 0, nI 5, []),
  (64, .if_icmp .ge 30, 3, 94, 0, []),
  (67, .iload_n 2, 1, 2, 0, []),
  (68, .iconst 1, 1, 0, nI 1, []),
  (69, .isub, 1, 0, 0, []),
  (70, .aload_n 0, 1, 0, 0, []),
  (71, .getfield 36, 3, 0, 0, []),
  (74, .iload_n 1, 1, 1, 0, []),
  (75, .iaload, 1, 0, 0, []),
  (76, .if_icmp .ge 16, 3, 92, 0, []),
  (79, .aload_n 0, 1, 0, 0, []),
  (80, .getfield 45, 3, 0, 0, []),
  (83, .iload_n 1, 1, 1, 0, []),
  (84, .aaload, 1, 1, 0, []),
  (85, .iload_n 2, 1, 2, 0, []),
  (86, .iconst 1, 1, 0, nI 1, []),
  (87, .isub, 1, 0, 0, []),
  (88, .iaload, 1, 1, 0, []),
  (89, .goto 4, 3, 93, 0, []),
  (92, .iconst (-1), 1, 0, -1, []),
  (93, .ireturn, 1, 0, 0, []),
  (94, .iload_n 2, 1, 2, 0, []),
  (95, .iconst 5, 1, 0, nI 5, []),
  (96, .if_icmp .ne 12, 3, 108, 0, []),
  (99, .aload_n 0, 1, 0, 0, []),
  (100, .getfield 39, 3, 0, 0, []),
  (103, .iload_n 1, 1, 1, 0, []),
  (104, .iaload, 1, 0, 0, []),
  (105, .goto 27, 3, 132, 0, []),
  (108, .aload_n 0, 1, 0, 0, []),
  (109, .getfield 36, 3, 0, 0, []),
  (112, .iload_n 1, 1, 1, 0, []),
  (113, .iaload, 1, 0, 0, []),
  (114, .ifCond .ne 7, 3, 121, 0, []),
  (117, .iconst (-1), 1, 0, -1, []),
  (118, .goto 14, 3, 132, 0, []),
  (121, .aload_n 0, 1, 0, 0, []),
  (122, .getfield 45, 3, 0, 0, []),
  (125, .iload_n 1, 1, 1, 0, []),
  (126, .aaload, 1, 1, 0, []),
  (127, .iconst 0, 1, 0, nI 0, []),
  (128, .iaload, 1, 1, 0, []),
  (129, .bipush 8, 2, 0, nI 8, []),
  (131, .idiv, 1, 0, 0, []),
  (132, .ireturn, 1, 0, 0, [])]
theorem kk_X8_trick : (k_X8_trick.all fun e => mChk cX8_trick e.1 e.2) = true := by decide +kernel
def l_X8_trick : List (Nat × Nat × (mG → mT)) := [(3 * 214 + 1, 3, t_X8_in)]
def f_X8_trick (g : mG) : mF := (mLk k_X8_trick, mLk fl_RX8, mLk (l_X8_trick.map fun e => (e.1, e.2.1, e.2.2 g)), mLk ([] : List (Nat × mV)), mLk ([] : List (Nat × mV)), some .int)
theorem m_X8_trick (g : mG) : mMono (f_X8_trick g) := mMonoL (g := g) (l := l_X8_trick) (List.forall_mem_cons.mpr ⟨mo_X8_in, fun _ h => absurd h List.not_mem_nil⟩) rfl

theorem w_trk_0 (g : mG) (M : mM) (P : mP) (x y : Int32)
    (h : (¬ (fIn y (nI 0) (nI 6)) = 0 → ((fIn x (nI 0) (nI 7)) = 0 → P (some (.inl (-12))) M) ∧ (¬ ((fIn x (nI 0) (nI 7)) = 0) → vp_in x 8 ∧ ((¬ (M 61 x.toNatClampNeg) = 0 → (¬ y = 0 → mRun (mSx g) (f_X8_trick g) P (62, [some (.inr (some 50)), some (.inl x), some (.inl y)], [], M)) ∧ (¬ (¬ y = 0) → vp_in x 8 ∧ (P (some (.inl (M 60 x.toNatClampNeg))) M))) ∧ (¬ (¬ (M 61 x.toNatClampNeg) = 0) → (¬ (M 50 5) = (nI 2) → P (some (.inl (-12))) M) ∧ (¬ (¬ (M 50 5) = (nI 2)) → (x = (M 50 19) → (¬ y = 0 → mRun (mSx g) (f_X8_trick g) P (62, [some (.inr (some 50)), some (.inl x), some (.inl y)], [], M)) ∧ (¬ (¬ y = 0) → vp_in x 8 ∧ (P (some (.inl (M 60 x.toNatClampNeg))) M))) ∧ (¬ (x = (M 50 19)) → P (some (.inl (-12))) M)))))) ∧ (¬ (¬ (fIn y (nI 0) (nI 6)) = 0) → P (some (.inl (-2))) M)) :
    mRun (mSx g) (f_X8_trick g) P (0, [some (.inr (some 50)), some (.inl x), some (.inl y)], [], M) := mRun.vc (m_X8_trick g) [62] 30 h

theorem w_trk_62 (g : mG) (M : mM) (P : mP) (x y : Int32)
    (h : ((nI 5) ≤ y → (¬ y = (nI 5) → vp_in x 8 ∧ ((¬ (M 61 x.toNatClampNeg) = 0 → ∃ (n4 k5 c6 : Nat) (rs7 : List (Option Nat)), (mSx g)[64]? = some (1, n4, rs7) ∧ x = nI k5 ∧ k5 < n4 ∧ n4 < 2 ^ 31 ∧ rs7[k5]? = some (some c6) ∧ (∃ (n8 : Nat) (rs9 : List (Option Nat)), (mSx g)[c6]? = some (0, n8, rs9) ∧ vp_in (nI 0) n8 ∧ (¬ (nI 8) = 0 ∧ (P (some (.inl ((M c6 ((nI 0).toNatClampNeg)) / (nI 8)))) M)))) ∧ (¬ (¬ (M 61 x.toNatClampNeg) = 0) → P (some (.inl (-1))) M))) ∧ (¬ (¬ y = (nI 5)) → vp_in x 8 ∧ (P (some (.inl (M 62 x.toNatClampNeg))) M))) ∧ (¬ ((nI 5) ≤ y) → vp_in x 8 ∧ (((M 61 x.toNatClampNeg) ≤ (y - (nI 1)) → P (some (.inl (-1))) M) ∧ (¬ ((M 61 x.toNatClampNeg) ≤ (y - (nI 1))) → ∃ (n11 k12 c13 : Nat) (rs14 : List (Option Nat)), (mSx g)[64]? = some (1, n11, rs14) ∧ x = nI k12 ∧ k12 < n11 ∧ n11 < 2 ^ 31 ∧ rs14[k12]? = some (some c13) ∧ (∃ (n15 : Nat) (rs16 : List (Option Nat)), (mSx g)[c13]? = some (0, n15, rs16) ∧ vp_in (y - (nI 1)) n15 ∧ (P (some (.inl (M c13 ((y - (nI 1)).toNatClampNeg)))) M)))))) :
    mRun (mSx g) (f_X8_trick g) P (62, [some (.inr (some 50)), some (.inl x), some (.inl y)], [], M) := mRun.vc (m_X8_trick g) [] 21 h

theorem run_X8_trick : mRunOf 3 t_X8_trick f_X8_trick := runM2 (by decide) (fun g M P z x y hR hI hP => by
  have hT := hI.T
  have hQ : ∀ v, v = (F_trick z [x, y]).1 → P (some (.inl v)) M := fun v e => hP v M e hR FrM.refl
  obtain ⟨⟨h1, h2, h3, h4, h5⟩, -, ⟨p19, -, -, p61, pcd, p60, p62, -⟩, -, hL⟩ := hR.T
  have hl := hT.len
  refine w_trk_0 g M P x y ?_
  rw [fI6, fI7]
  rcases ix_cs y (n := 7) (by decide) with ⟨hy, e1⟩ | ⟨k, hk, rfl, e1⟩
  · rw [show (F_trick z [x, y]).1 = -2 by simp only [F_trick, e1]] at hQ
    rw [e1, mb_no]
    exact ⟨fun h => absurd rfl h, fun _ => hQ _ rfl⟩
  rw [e1, mb_so]
  refine ⟨fun _ => ?_, fun h => absurd (by decide) h⟩
  rcases ix_cs x (n := 8) (by decide) with ⟨hx, e2⟩ | ⟨i, hi, rfl, e2⟩
  · rw [show (F_trick z [x, nI k]).1 = -12 by simp only [F_trick, e1, e2]] at hQ
    rw [e2, mb_no]
    exact ⟨fun _ => hQ _ rfl, fun h => absurd rfl h⟩
  have hF : (F_trick z [nI i, nI k]).1 = aTrk (zT z.2.1) i k := by simp only [F_trick, e1, e2]
  rw [hF] at hQ
  have c61 : M 61 i = nI (min 4 ((zT z.2.1).2.2.1.2.2.2.2.length - 4 * i)) := p61 i hi
  have z61 : M 61 i = 0 ↔ ¬ 4 * i < (zT z.2.1).2.2.1.2.2.2.2.length := by
    rw [c61]
    exact (nI_eq (b := 0) (by omega) (by decide)).trans (by omega)
  have k0 : nI k = 0 ↔ k = 0 := nI_eq (b := 0) (by omega) (by decide)
  have v8 : vp_in (nI i) 8 := vp_in_nI hi (by decide)
  have ci : (nI i).toNatClampNeg = i := nI_clamp (by omega)
  rw [e2, mb_so, ci, z61, k0, h1, show nI (zT z.2.1).1.1 = nI 2 ↔ (zT z.2.1).1.1 = 2 from nI_at2 hT.1.1 (by decide), p19, nI_eq (by omega) (by omega)]
  have no : ¬ 4 * i < (zT z.2.1).2.2.1.2.2.2.2.length ∧ ¬ ((zT z.2.1).1.1 = 2 ∧ (zT z.2.1).2.2.1.2.2.2.2.length / 4 = i) → P (some (.inl (-12))) M := fun h => hQ _ (by unfold aTrk; rw [if_pos h])
  have body : ¬ (¬ 4 * i < (zT z.2.1).2.2.1.2.2.2.2.length ∧ ¬ ((zT z.2.1).1.1 = 2 ∧ (zT z.2.1).2.2.1.2.2.2.2.length / 4 = i)) → (¬ k = 0 → mRun (mSx g) (f_X8_trick g) P (62, [some (.inr (some 50)), some (.inl (nI i)), some (.inl (nI k))], [], M)) ∧ (¬ ¬ k = 0 → vp_in (nI i) 8 ∧ P (some (.inl (M 60 i))) M) := fun hb => by
    have hQ2 := hQ
    unfold aTrk at hQ2
    rw [if_neg hb] at hQ2
    refine ⟨fun hk0 => ?_, fun hk0 => ⟨v8, ?_⟩⟩
    · rw [if_neg hk0] at hQ2
      refine w_trk_62 g M P _ _ ?_
      have k5 : nI k = nI 5 ↔ k = 5 := nI_eq (by omega) (by decide)
      rw [ci, z61, k5, nI_leI (by decide) (by omega)]
      refine ⟨fun h5 => ⟨fun h6 => ⟨v8, fun hin => ?_, fun hin => ?_⟩, fun h6 => ⟨v8, ?_⟩⟩, fun h5 => ⟨v8, ?_⟩⟩
      · have hin := Classical.not_not.mp hin
        rw [if_neg h6, if_pos (by omega), if_pos hin] at hQ2
        refine rr_at (i := i) o_cards (by decide) hi (ri_at o_cards hi (show 0 < 4 by decide) (by decide) ⟨n8, ?_⟩)
        have hok : aOkS (zT z.2.1).2.2.1 := by
          rcases hT.2.2.2.2.1 with h | h
          · rw [h] at hin
            exact absurd hin (Nat.not_lt_zero _)
          · exact h
        have hc := aOk.lt hok _ (aC_in (show 4 * i + 0 < _ from hin))
        rw [show (nI 0).toNatClampNeg = 0 from rfl, pcd i 0 (by decide) hin, nI_div8 (by omega)]
        exact hQ2 _ rfl
      · rw [if_neg h6, if_pos (by omega), if_neg (Classical.not_not.mp hin)] at hQ2
        exact hQ2 _ rfl
      · rw [if_pos (Classical.not_not.mp h6)] at hQ2
        exact hQ2 _ (p62 i hi)
      · rw [if_neg (by omega), if_neg (by omega)] at hQ2
        rw [c61, pk_sub (by omega), nI_leI (by omega) (by omega)]
        refine ⟨fun h => ?_, fun h => ?_⟩
        · rw [if_neg (by omega)] at hQ2
          exact hQ2 _ rfl
        · have hin : 4 * i + (k - 1) < (zT z.2.1).2.2.1.2.2.2.2.length := by omega
          rw [if_pos hin] at hQ2
          refine rr_at (i := i) o_cards (by decide) hi (ri_at o_cards hi (show k - 1 < 4 by omega) (by decide) ?_)
          rw [nI_clamp (by omega)]
          exact hQ2 _ (pcd i (k - 1) (by omega) hin)
    · rw [if_pos (Classical.not_not.mp hk0)] at hQ2
      by_cases h : 4 * i < (zT z.2.1).2.2.1.2.2.2.2.length
      · rw [if_pos h] at hQ2
        exact hQ2 _ (p60 i h)
      · rw [if_neg h] at hQ2
        have hp : (zT z.2.1).1.1 = 2 ∧ (zT z.2.1).2.2.1.2.2.2.2.length / 4 = i := Classical.byContradiction (fun w => hb ⟨h, w⟩)
        obtain ⟨q1, q2, -⟩ := hT.play hp.1
        refine hQ2 _ ?_
        have := hL hp.1
        rw [hp.2] at this
        rw [this, aTn_0 (by omega) q1.2.1, hp.2]
  refine ⟨fun h => absurd h (by decide), fun _ => ⟨v8, fun w => body (fun q => w q.1), fun w => ⟨fun h2 => no ⟨Classical.not_not.mp w, fun q => h2 q.1⟩, fun h2 => ⟨fun h3 => body (fun q => q.2 ⟨Classical.not_not.mp h2, h3.symm⟩), fun h3 => no ⟨Classical.not_not.mp w, fun q => h3 q.2.symm⟩⟩⟩⟩⟩)

theorem ok_X8_trick : mOK yX8_trick cX8_trick 3 (some .int) 2 t_X8_trick := mOK.of f_X8_trick (by decide) (fun _ => rfl) (fun g => mCodeOK kk_X8_trick) (fun g => mFldL fk_RX8 rfl) (fun g idx v h => by cases h) (fun g idx v h => by cases h) (mCalL (l := l_X8_trick) (List.forall_mem_cons.mpr ⟨mSite.S (idx := 214) ok_X8_in (by decide) (by decide) wc_X8_in wk_RX8_214 wt_X8_in wn_RX8 wd_X8_in, fun _ h => absurd h List.not_mem_nil⟩) (fun _ => rfl)) run_X8_trick

theorem fS_sum {b : Bool} {f h : Nat → Nat} : ∀ {l : List Nat} {e e' : Nat}, (∀ c ∈ l, f c + h c = 8) → e + e' = 8 → fS b f l e + fS (!b) h l e' = 8
  | [], _, _, _, k => k
  | c :: l, e, e', hf, k => by
    have hc := hf c List.mem_cons_self
    rw [fS, fS]
    refine fS_sum (fun d hd => hf d (List.mem_cons_of_mem _ hd)) ?_
    cases b
    · show min e (f c) + max e' (h c) = 8
      omega
    · show max e (f c) + min e' (h c) = 8
      omega
theorem aV_sum {x : aX} {dl : Nat → Int32} : ∀ (n : Nat) (cs : List Nat), n + cs.length = 32 → aOk x dl cs → aV x dl 0 n cs + aV x dl 1 n cs = 8
  | 0, cs, hn, _ => by
    rw [aV, aV, aWn_sum]
    omega
  | n + 1, cs, hn, hok => by
    have hsum := aWn_sum (x := x) (cs := cs) (cs.length / 4)
    have hf : ∀ c ∈ bts (ub (aAl x dl cs)) 32, aV x dl 0 n (cs ++ [c]) + aV x dl 1 n (cs ++ [c]) = 8 := fun c hc => by
      have h := bts_lt hc
      exact aV_sum n (cs ++ [c]) (by rw [List.length_append, List.length_singleton]; omega) (al_ok hok (by omega) h.1 h.2)
    rw [aV, aV]
    rcases (by omega : aTn x cs cs.length % 2 = 0 ∨ aTn x cs cs.length % 2 = 1) with h | h
    · rw [h]
      exact fS_sum (b := true) hf (by show aWn x cs 0 (cs.length / 4) + (aWn x cs 1 (cs.length / 4) + (8 - cs.length / 4)) = 8; omega)
    · rw [h]
      exact fS_sum (b := false) hf (by show aWn x cs 0 (cs.length / 4) + (8 - cs.length / 4) + aWn x cs 1 (cs.length / 4) = 8; omega)
/-- for the side in turn: what is left, less the other side's -/
theorem aO_R {x : aX} {dl : Nat → Int32} {cs : List Nat} (hok : aOk x dl cs) : (aSd x cs = 0 → aO x dl cs = aR x dl cs) ∧ (aSd x cs = 1 → aO x dl cs = 8 - cs.length / 4 - aR x dl cs) := by
  refine ⟨fun h => by unfold aO aR; rw [h], fun h => ?_⟩
  unfold aO aR
  rw [h]
  have hs := aV_sum (x := x) (dl := dl) (32 - cs.length) cs (by have := hok.2.2.1; omega) hok
  have hw := aWn_sum (x := x) (cs := cs) (cs.length / 4)
  have h0 := aV_bd (x := x) (dl := dl) (s := 0) (32 - cs.length) cs (by have := hok.2.2.1; omega) hok
  omega
theorem aG_R {x : aX} {dl : Nat → Int32} {cs : List Nat} {c : Nat} (hok : aOk x dl cs) (hn : cs.length < 32) (hc : c < 32) (hb : bt (aAl x dl cs) c = true) : (aSd x cs = 0 → aG x dl cs c = aRc x dl cs c) ∧ (aSd x cs = 1 → aG x dl cs c = 8 - cs.length / 4 - aRc x dl cs c) ∧ aRc x dl cs c ≤ 8 - cs.length / 4 := by
  have hok2 := al_ok hok hn hc hb
  have hlen : (cs ++ [c]).length = cs.length + 1 := by rw [List.length_append, List.length_singleton]
  have h0 := aV_bd (x := x) (dl := dl) (s := 0) (31 - cs.length) (cs ++ [c]) (by omega) hok2
  have hs := aV_sum (x := x) (dl := dl) (31 - cs.length) (cs ++ [c]) (by omega) hok2
  have hw := aWn_sum (x := x) (cs := cs) (cs.length / 4)
  have hst := aWn_step (x := x) (cs := cs) (c := c) (s := 0) hn
  refine ⟨fun h => by unfold aG aRc; rw [h], fun h => ?_, ?_⟩
  · unfold aG aRc
    rw [h]
    omega
  · unfold aRc
    omega
theorem aR_le {x : aX} {dl : Nat → Int32} {cs : List Nat} (hok : aOk x dl cs) : aR x dl cs ≤ 8 - cs.length / 4 := by
  have h0 := aV_bd (x := x) (dl := dl) (s := 0) (32 - cs.length) cs (by have := hok.2.2.1; omega) hok
  unfold aR
  omega
/-- late in the play: as it is tested -/
theorem late_cs {M : mM} {z : aZ} (hR : RpM M z) (hI : zInv z) {X : Prop} {Y0 Y1 : Prop} (h0 : dLate (zT z.2.1) = false → Y0) (h1 : dLate (zT z.2.1) = true → Y1) :
    (¬ M 50 5 = nI 2 → (nI 0 = 0 ∨ nI 0 = 1) ∧ Y0) ∧ (¬ ¬ M 50 5 = nI 2 → (nI 3 < nI 8 - M 50 19 → (nI 0 = 0 ∨ nI 0 = 1) ∧ Y0) ∧ (¬ nI 3 < nI 8 - M 50 19 → (nI 1 = 0 ∨ nI 1 = 1) ∧ Y1)) := by
  have hT := hI.T
  have e5 : M 50 5 = nI (zT z.2.1).1.1 := hR.T.1.1
  have e19 : M 50 19 = nI ((zT z.2.1).2.2.1.2.2.2.2.length / 4) := hR.T.2.2.1.1
  have hl := hT.len
  have hph : nI (zT z.2.1).1.1 = nI 2 ↔ (zT z.2.1).1.1 = 2 := nI_at2 hT.1.1 (by decide)
  rw [e5, e19, hph, pk_sub (by omega), nI_ltI (by decide) (by omega)]
  refine ⟨fun k => ⟨Or.inl rfl, h0 ?_⟩, fun k => ⟨fun w => ⟨Or.inl rfl, h0 ?_⟩, fun w => ⟨Or.inr rfl, h1 ?_⟩⟩⟩
  · exact Bool.eq_false_iff.mpr (fun w => k (dLate_t.mp w).1)
  · exact Bool.eq_false_iff.mpr (fun y => by have := (dLate_t.mp y).2; omega)
  · exact dLate_t.mpr ⟨Classical.not_not.mp k, by omega⟩
/-- the side in turn -/
theorem sideM {M : mM} {x : aX} {dl : Nat → Int32} {cs : List Nat} (h : RmQ M x dl cs) : fSide (M 50 6) = nI (aSd x cs) := by
  have ht4 := aTn_lt (x := x) (cs := cs) (j := cs.length)
  rw [h.2.1.1, fSide_nI (by omega)]
  rfl
theorem late_20 {T : aT} (h : dLate T = true) : T.1.1 = 2 ∧ 20 ≤ T.2.2.1.2.2.2.2.length := dLate_t.mp h
abbrev t_X8_open : mG → mT := pubM 0 F_open
theorem mo_X8_open : mMn t_X8_open := pubM_mono
theorem rv_X8_open : mHasR yX8_open 0 t_X8_open := pubM_recv rfl
def k_X8_open : List (Nat × mI) := [(0, .aload_n 0, 1, 0, 0, []),
  (1, .invokevirtual 207, 3, 0, 0, []),
  (4, .ifCond .eq 14, 3, 18, 0, []),
  (7, .aload_n 0, 1, 0, 0, []),
  (8, .aload_n 0, 1, 0, 0, []),
  (9, .invokevirtual 198, 3, 0, 0, []),
  (12, .invokevirtual 211, 3, 0, 0, []),
  (15, .goto 5, 3, 20, 0, []),
  (18, .bipush (-3), 2, 0, -3, []),
  (20, .ireturn, 1, 0, 0, [])]
theorem kk_X8_open : (k_X8_open.all fun e => mChk cX8_open e.1 e.2) = true := by decide +kernel
def l_X8_open : List (Nat × Nat × (mG → mT)) := [(3 * 207, 0 + 1, t_X8_isLate), (3 * 198, 0 + 1, (t_X8_solved 13)), (3 * 211, 1 + 1, t_X8_forTurn)]
def f_X8_open (g : mG) : mF := (mLk k_X8_open, mLk fl_RX8, mLk (l_X8_open.map fun e => (e.1, e.2.1, e.2.2 g)), mLk ([] : List (Nat × mV)), mLk ([] : List (Nat × mV)), some .int)
theorem m_X8_open (g : mG) : mMono (f_X8_open g) := mMonoL (g := g) (l := l_X8_open) (List.forall_mem_cons.mpr ⟨mo_X8_isLate, List.forall_mem_cons.mpr ⟨(mo_X8_solved 13), List.forall_mem_cons.mpr ⟨mo_X8_forTurn, fun _ h => absurd h List.not_mem_nil⟩⟩⟩) rfl

theorem w_open (g : mG) (M : mM) (P : mP) 
    (h : (¬ (M 50 5) = (nI 2) → ((nI 0) = 0 ∨ (nI 0) = 1) ∧ (((nI 0) = 0 → P (some (.inl (-3))) M) ∧ (¬ ((nI 0) = 0) → ∃ x3 : aX × (Nat → Int32) × List Nat, pre_X8_solved 13 x3 [.inr (some 50)] M ∧ ∀ (r5 : Int32) (M4 : mM), post_X8_solved 13 x3 [.inr (some 50)] M r5 M4 → ((¬ (fSide (M4 50 6)) = 0 → (P (some (.inl (((nI 8) - (M4 50 19)) - r5))) M4)) ∧ (¬ (¬ (fSide (M4 50 6)) = 0) → (P (some (.inl r5)) M4)))))) ∧ (¬ (¬ (M 50 5) = (nI 2)) → ((nI 3) < ((nI 8) - (M 50 19)) → ((nI 0) = 0 ∨ (nI 0) = 1) ∧ (((nI 0) = 0 → P (some (.inl (-3))) M) ∧ (¬ ((nI 0) = 0) → ∃ x9 : aX × (Nat → Int32) × List Nat, pre_X8_solved 13 x9 [.inr (some 50)] M ∧ ∀ (r11 : Int32) (M10 : mM), post_X8_solved 13 x9 [.inr (some 50)] M r11 M10 → ((¬ (fSide (M10 50 6)) = 0 → (P (some (.inl (((nI 8) - (M10 50 19)) - r11))) M10)) ∧ (¬ (¬ (fSide (M10 50 6)) = 0) → (P (some (.inl r11)) M10)))))) ∧ (¬ ((nI 3) < ((nI 8) - (M 50 19))) → ((nI 1) = 0 ∨ (nI 1) = 1) ∧ (((nI 1) = 0 → P (some (.inl (-3))) M) ∧ (¬ ((nI 1) = 0) → ∃ x14 : aX × (Nat → Int32) × List Nat, pre_X8_solved 13 x14 [.inr (some 50)] M ∧ ∀ (r16 : Int32) (M15 : mM), post_X8_solved 13 x14 [.inr (some 50)] M r16 M15 → ((¬ (fSide (M15 50 6)) = 0 → (P (some (.inl (((nI 8) - (M15 50 19)) - r16))) M15)) ∧ (¬ (¬ (fSide (M15 50 6)) = 0) → (P (some (.inl r16)) M15)))))))) :
    mRun (mSx g) (f_X8_open g) P (0, [some (.inr (some 50))], [], M) := mRun.vc (m_X8_open g) [] 9 h

theorem run_X8_open : mRunOf 1 t_X8_open f_X8_open := runM0 (by decide) (fun g M P z hR hI hP => by
  have hT := hI.T
  have hQ : ∀ v M', v = (if dLate (zT z.2.1) = true then nI (tO (zT z.2.1)) else -3) → RpM M' z → FrM M M' → P (some (.inl v)) M' := fun v M' e => hP v M' e
  have no : dLate (zT z.2.1) = false → P (some (.inl (-3))) M := fun h => hQ _ _ (by rw [h, if_neg (by decide)]) hR FrM.refl
  refine w_open g M P (late_cs (X := True) hR hI (fun h => ⟨fun _ => no h, fun w => absurd rfl w⟩) (fun h => ⟨fun w => absurd w (by decide), fun _ => ?_⟩))
  obtain ⟨l1, l2⟩ := late_20 h
  obtain ⟨k1, k2, -⟩ := hT.play l1
  rw [if_pos h] at hQ
  refine ⟨((zT z.2.1).2.2.1.1, (zT z.2.1).2.2.1.2.1, (zT z.2.1).2.2.1.2.2.2.2), ⟨rfl, hR.T.Q hT l1, k1, by show 33 ≤ (zT z.2.1).2.2.1.2.2.2.2.length + 13; omega⟩, fun r M4 hr => ?_⟩
  obtain ⟨hv, hQ4, hF4⟩ := hr
  dsimp only at hv hQ4
  have hR4 := hR.R (hR.T.of hT l1 hQ4 hF4) hF4.R
  have ho := aO_R k1
  have hle := aR_le k1
  have hs2 := aSd_lt (x := (zT z.2.1).2.2.1.1) (cs := (zT z.2.1).2.2.1.2.2.2.2)
  have e19 : M4 50 19 = nI ((zT z.2.1).2.2.1.2.2.2.2.length / 4) := hQ4.1.1
  rw [sideM hQ4, hv, e19]
  refine ⟨fun w => ?_, fun w => ?_⟩
  · have w' : ¬ aSd (zT z.2.1).2.2.1.1 (zT z.2.1).2.2.1.2.2.2.2 = 0 := fun y => w (by rw [y]; rfl)
    refine hQ _ _ ?_ hR4 hF4.M
    rw [pk_sub (by omega), pk_sub hle]
    unfold tO
    rw [ho.2 (by omega)]
  · have w' := (nI_eq (b := 0) (by omega) (by decide)).mp (Classical.not_not.mp w)
    refine hQ _ _ ?_ hR4 hF4.M
    unfold tO
    rw [ho.1 w'])

theorem ok_X8_open : mOK yX8_open cX8_open 1 (some .int) 33 t_X8_open := mOK.of f_X8_open (by decide) (fun _ => rfl) (fun g => mCodeOK kk_X8_open) (fun g => mFldL fk_RX8 rfl) (fun g idx v h => by cases h) (fun g idx v h => by cases h) (mCalL (l := l_X8_open) (List.forall_mem_cons.mpr ⟨mSite.V (idx := 207) ok_X8_isLate (by decide) (by decide) rv_X8_isLate wc_X8_isLate wk_RX8_207 wi_X8_isLate wl_X8_isLate wn_RX8 wd_X8_isLate, List.forall_mem_cons.mpr ⟨mSite.V (idx := 198) (ok_X8_solved 13) (by decide) (by decide) rv_X8_solved wc_X8_solved wk_RX8_198 wi_X8_solved wl_X8_solved wn_RX8 wd_X8_solved, List.forall_mem_cons.mpr ⟨mSite.V (idx := 211) ok_X8_forTurn (by decide) (by decide) rv_X8_forTurn wc_X8_forTurn wk_RX8_211 wi_X8_forTurn wl_X8_forTurn wn_RX8 wd_X8_forTurn, fun _ h => absurd h List.not_mem_nil⟩⟩⟩) (fun _ => rfl)) run_X8_open

abbrev t_X8_gains : mG → mT := pubM 1 F_gains
theorem mo_X8_gains : mMn t_X8_gains := pubM_mono
theorem rv_X8_gains : mHasR yX8_gains 1 t_X8_gains := pubM_recv rfl
def k_X8_gains : List (Nat × mI) := [(0, .iload_n 1, 1, 1, 0, []),
  (1, .iconst 0, 1, 0, nI 0, []),
  (2, .bipush 31, 2, 0, nI 31, []),
  (4, .invokestatic 214, 3, 0, 0, []),
  (7, .ifCond .ne 6, 3, 13, 0, []),
  (10, .bipush (-2), 2, 0, -2, []),
  (12, .ireturn, 1, 0, 0, []),
  (13, .aload_n 0, 1, 0, 0, []),
  (14, .invokevirtual 207, 3, 0, 0, []),
  (17, .ifCond .ne 6, 3, 23, 0, []),
  (20, .bipush (-3), 2, 0, -3, []),
  (22, .ireturn, 1, 0, 0, []),
  (23, .aload_n 0, 1, 0, 0, []),
  (24, .invokevirtual 201, 3, 0, 0, []),
  (27, .iload_n 1, 1, 1, 0, []),
  (28, .invokestatic 139, 3, 0, 0, []),
  (31, .ifCond .eq 15, 3, 46, 0, []),
  (34, .aload_n 0, 1, 0, 0, []),
  (35, .aload_n 0, 1, 0, 0, []),
  (36, .iload_n 1, 1, 1, 0, []),
  (37, .invokevirtual 204, 3, 0, 0, []),
  (40, .invokevirtual 211, 3, 0, 0, []),
  (43, .goto 5, 3, 48, 0, []),
  (46, .bipush (-6), 2, 0, -6, []),
  (48, .ireturn, 1, 0, 0, [])]
theorem kk_X8_gains : (k_X8_gains.all fun e => mChk cX8_gains e.1 e.2) = true := by decide +kernel
def l_X8_gains : List (Nat × Nat × (mG → mT)) := [(3 * 214 + 1, 3, t_X8_in), (3 * 207, 0 + 1, t_X8_isLate), (3 * 201, 0 + 1, t_X8_mayPlay), (3 * 139 + 1, 2, t_X8_has), (3 * 204, 1 + 1, (t_X8_tried 13)), (3 * 211, 1 + 1, t_X8_forTurn)]
def f_X8_gains (g : mG) : mF := (mLk k_X8_gains, mLk fl_RX8, mLk (l_X8_gains.map fun e => (e.1, e.2.1, e.2.2 g)), mLk ([] : List (Nat × mV)), mLk ([] : List (Nat × mV)), some .int)
theorem m_X8_gains (g : mG) : mMono (f_X8_gains g) := mMonoL (g := g) (l := l_X8_gains) (List.forall_mem_cons.mpr ⟨mo_X8_in, List.forall_mem_cons.mpr ⟨mo_X8_isLate, List.forall_mem_cons.mpr ⟨mo_X8_mayPlay, List.forall_mem_cons.mpr ⟨mo_X8_has, List.forall_mem_cons.mpr ⟨(mo_X8_tried 13), List.forall_mem_cons.mpr ⟨mo_X8_forTurn, fun _ h => absurd h List.not_mem_nil⟩⟩⟩⟩⟩⟩) rfl

theorem w_gains (g : mG) (M : mM) (P : mP) (x : Int32)
    (h : (¬ (fIn x (nI 0) (nI 31)) = 0 → (¬ (M 50 5) = (nI 2) → ((nI 0) = 0 ∨ (nI 0) = 1) ∧ ((¬ (nI 0) = 0 → ∃ x4 : aX × (Nat → Int32) × List Nat, pre_X8_mayPlay x4 [.inr (some 50)] M ∧ ∀ (r6 : Int32) (M5 : mM), post_X8_mayPlay x4 [.inr (some 50)] M r6 M5 → (((fHas r6 x) = 0 → P (some (.inl (-6))) M5) ∧ (¬ ((fHas r6 x) = 0) → ∃ x8 : aX × (Nat → Int32) × List Nat × Nat, pre_X8_tried 13 x8 [.inr (some 50), .inl x] M5 ∧ ∀ (r10 : Int32) (M9 : mM), post_X8_tried 13 x8 [.inr (some 50), .inl x] M5 r10 M9 → ((¬ (fSide (M9 50 6)) = 0 → (P (some (.inl (((nI 8) - (M9 50 19)) - r10))) M9)) ∧ (¬ (¬ (fSide (M9 50 6)) = 0) → (P (some (.inl r10)) M9)))))) ∧ (¬ (¬ (nI 0) = 0) → P (some (.inl (-3))) M))) ∧ (¬ (¬ (M 50 5) = (nI 2)) → ((nI 3) < ((nI 8) - (M 50 19)) → ((nI 0) = 0 ∨ (nI 0) = 1) ∧ ((¬ (nI 0) = 0 → ∃ x14 : aX × (Nat → Int32) × List Nat, pre_X8_mayPlay x14 [.inr (some 50)] M ∧ ∀ (r16 : Int32) (M15 : mM), post_X8_mayPlay x14 [.inr (some 50)] M r16 M15 → (((fHas r16 x) = 0 → P (some (.inl (-6))) M15) ∧ (¬ ((fHas r16 x) = 0) → ∃ x18 : aX × (Nat → Int32) × List Nat × Nat, pre_X8_tried 13 x18 [.inr (some 50), .inl x] M15 ∧ ∀ (r20 : Int32) (M19 : mM), post_X8_tried 13 x18 [.inr (some 50), .inl x] M15 r20 M19 → ((¬ (fSide (M19 50 6)) = 0 → (P (some (.inl (((nI 8) - (M19 50 19)) - r20))) M19)) ∧ (¬ (¬ (fSide (M19 50 6)) = 0) → (P (some (.inl r20)) M19)))))) ∧ (¬ (¬ (nI 0) = 0) → P (some (.inl (-3))) M))) ∧ (¬ ((nI 3) < ((nI 8) - (M 50 19))) → ((nI 1) = 0 ∨ (nI 1) = 1) ∧ ((¬ (nI 1) = 0 → ∃ x23 : aX × (Nat → Int32) × List Nat, pre_X8_mayPlay x23 [.inr (some 50)] M ∧ ∀ (r25 : Int32) (M24 : mM), post_X8_mayPlay x23 [.inr (some 50)] M r25 M24 → (((fHas r25 x) = 0 → P (some (.inl (-6))) M24) ∧ (¬ ((fHas r25 x) = 0) → ∃ x27 : aX × (Nat → Int32) × List Nat × Nat, pre_X8_tried 13 x27 [.inr (some 50), .inl x] M24 ∧ ∀ (r29 : Int32) (M28 : mM), post_X8_tried 13 x27 [.inr (some 50), .inl x] M24 r29 M28 → ((¬ (fSide (M28 50 6)) = 0 → (P (some (.inl (((nI 8) - (M28 50 19)) - r29))) M28)) ∧ (¬ (¬ (fSide (M28 50 6)) = 0) → (P (some (.inl r29)) M28)))))) ∧ (¬ (¬ (nI 1) = 0) → P (some (.inl (-3))) M))))) ∧ (¬ (¬ (fIn x (nI 0) (nI 31)) = 0) → P (some (.inl (-2))) M)) :
    mRun (mSx g) (f_X8_gains g) P (0, [some (.inr (some 50)), some (.inl x)], [], M) := mRun.vc (m_X8_gains g) [] 20 h

/-- what a card brings the side in turn -/
theorem gain_at {M9 : mM} {x : aX} {dl : Nat → Int32} {cs : List Nat} {c : Nat} {r : Int32} (hok : aOk x dl cs) (hn : cs.length < 32) (hc : c < 32) (hb : bt (aAl x dl cs) c = true) (hQ9 : RmQ M9 x dl cs) (hv : r = nI (aRc x dl cs c)) {X : Int32 → Prop} (h : X (nI (aG x dl cs c))) :
    (¬ fSide (M9 50 6) = 0 → X (nI 8 - M9 50 19 - r)) ∧ (¬ ¬ fSide (M9 50 6) = 0 → X r) := by
  obtain ⟨g0, g1, gl⟩ := aG_R hok hn hc hb
  have hs2 := aSd_lt (x := x) (cs := cs)
  have e19 : M9 50 19 = nI (cs.length / 4) := hQ9.1.1
  rw [sideM hQ9, hv, e19]
  refine ⟨fun w => ?_, fun w => ?_⟩
  · have w' : ¬ aSd x cs = 0 := fun y => w (by rw [y]; rfl)
    rw [pk_sub (by omega), pk_sub gl, ← g1 (by omega)]
    exact h
  · have w' := (nI_eq (b := 0) (by omega) (by decide)).mp (Classical.not_not.mp w)
    rw [← g0 w']
    exact h
theorem run_X8_gains : mRunOf 2 t_X8_gains f_X8_gains := runM1 (by decide) (fun g M P z x hR hI hP => by
  have hT := hI.T
  have hQ : ∀ v M', v = (F_gains z [x]).1 → RpM M' z → FrM M M' → P (some (.inl v)) M' := fun v M' e => hP v M' e
  refine w_gains g M P x ?_
  rw [fI31]
  rcases ix_cs x (n := 32) (by decide) with ⟨hx, e1⟩ | ⟨j, hj, rfl, e1⟩
  · rw [show (F_gains z [x]).1 = -2 by simp only [F_gains, e1]] at hQ
    rw [e1, mb_no]
    exact ⟨fun h => absurd rfl h, fun _ => hQ _ _ rfl hR FrM.refl⟩
  rw [show (F_gains z [nI j]).1 = if dLate (zT z.2.1) = true then (if bt (aAl (zT z.2.1).2.2.1.1 (zT z.2.1).2.2.1.2.1 (zT z.2.1).2.2.1.2.2.2.2) j = true then nI (aG (zT z.2.1).2.2.1.1 (zT z.2.1).2.2.1.2.1 (zT z.2.1).2.2.1.2.2.2.2 j) else -6) else -3 by simp only [F_gains, e1]] at hQ
  have no : dLate (zT z.2.1) = false → P (some (.inl (-3))) M := fun h => hQ _ _ (by rw [h, if_neg (by decide)]) hR FrM.refl
  rw [e1, mb_so]
  refine ⟨fun _ => late_cs (X := True) hR hI (fun h => ⟨fun w => absurd rfl w, fun _ => no h⟩) (fun h => ⟨fun _ => ?_, fun w => absurd (by decide) w⟩), fun h => absurd (by decide) h⟩
  obtain ⟨l1, l2⟩ := late_20 h
  obtain ⟨k1, k2, -⟩ := hT.play l1
  rw [if_pos h] at hQ
  refine ⟨((zT z.2.1).2.2.1.1, (zT z.2.1).2.2.1.2.1, (zT z.2.1).2.2.1.2.2.2.2), ⟨rfl, hR.T.Q hT l1, k1, k2⟩, fun r M5 hr => ?_⟩
  obtain ⟨rfl, rfl⟩ := hr
  dsimp only
  rw [fHas_eq hj, mb_0]
  refine ⟨fun w => ?_, fun w => ?_⟩
  · rw [if_neg w] at hQ
    exact hQ _ _ rfl hR FrM.refl
  · have hb := Classical.not_not.mp w
    rw [if_pos hb] at hQ
    refine ⟨((zT z.2.1).2.2.1.1, (zT z.2.1).2.2.1.2.1, (zT z.2.1).2.2.1.2.2.2.2, j), ⟨rfl, hR.T.Q hT l1, k1, k2, hj, hb, by show 32 ≤ (zT z.2.1).2.2.1.2.2.2.2.length + 13; omega⟩, fun r M9 hr => ?_⟩
    obtain ⟨hv, hQ9, hF9⟩ := hr
    dsimp only at hv hQ9
    have hR9 := hR.R (hR.T.of hT l1 hQ9 hF9) hF9.R
    exact gain_at (X := fun v => P (some (.inl v)) M9) k1 k2 hj hb hQ9 hv (hQ _ _ rfl hR9 hF9.M))

theorem ok_X8_gains : mOK yX8_gains cX8_gains 2 (some .int) 34 t_X8_gains := mOK.of f_X8_gains (by decide) (fun _ => rfl) (fun g => mCodeOK kk_X8_gains) (fun g => mFldL fk_RX8 rfl) (fun g idx v h => by cases h) (fun g idx v h => by cases h) (mCalL (l := l_X8_gains) (List.forall_mem_cons.mpr ⟨mSite.S (idx := 214) ok_X8_in (by decide) (by decide) wc_X8_in wk_RX8_214 wt_X8_in wn_RX8 wd_X8_in, List.forall_mem_cons.mpr ⟨mSite.V (idx := 207) ok_X8_isLate (by decide) (by decide) rv_X8_isLate wc_X8_isLate wk_RX8_207 wi_X8_isLate wl_X8_isLate wn_RX8 wd_X8_isLate, List.forall_mem_cons.mpr ⟨mSite.V (idx := 201) ok_X8_mayPlay (by decide) (by decide) rv_X8_mayPlay wc_X8_mayPlay wk_RX8_201 wi_X8_mayPlay wl_X8_mayPlay wn_RX8 wd_X8_mayPlay, List.forall_mem_cons.mpr ⟨mSite.S (idx := 139) ok_X8_has (by decide) (by decide) wc_X8_has wk_RX8_139 wt_X8_has wn_RX8 wd_X8_has, List.forall_mem_cons.mpr ⟨mSite.V (idx := 204) (ok_X8_tried 13 (ok_X8_solved 13)) (by decide) (by decide) rv_X8_tried wc_X8_tried wk_RX8_204 wi_X8_tried wl_X8_tried wn_RX8 wd_X8_tried, List.forall_mem_cons.mpr ⟨mSite.V (idx := 211) ok_X8_forTurn (by decide) (by decide) rv_X8_forTurn wc_X8_forTurn wk_RX8_211 wi_X8_forTurn wl_X8_forTurn wn_RX8 wd_X8_forTurn, fun _ h => absurd h List.not_mem_nil⟩⟩⟩⟩⟩⟩) (fun _ => rfl)) run_X8_gains

abbrev t_X8_best : mG → mT := pubM 1 F_best
theorem mo_X8_best : mMn t_X8_best := pubM_mono
theorem rv_X8_best : mHasR yX8_best 1 t_X8_best := pubM_recv rfl
def k_X8_best : List (Nat × mI) := [(0, .iload_n 1, 1, 1, 0, []),
  (1, .iconst 0, 1, 0, nI 0, []),
  (2, .iconst 1, 1, 0, nI 1, []),
  (3, .invokestatic 214, 3, 0, 0, []),
  (6, .ifCond .ne 6, 3, 12, 0, []),
  (9, .bipush (-2), 2, 0, -2, []),
  (11, .ireturn, 1, 0, 0, []),
  (12, .aload_n 0, 1, 0, 0, []),
  (13, .invokevirtual 207, 3, 0, 0, []),
  (16, .ifCond .ne 6, 3, 22, 0, []),
  (19, .bipush (-3), 2, 0, -3, []),
  (21, .ireturn, 1, 0, 0, []),
  (22, .aload_n 0, 1, 0, 0, []),
  (23, .invokevirtual 201, 3, 0, 0, []),
  (26, .istore_n 2, 1, 2, 0, []),
  (27, .iconst (-1), 1, 0, -1, []),
  (28, .istore_n 3, 1, 3, 0, []),
  (29, .iconst (-1), 1, 0, -1, []),
  (30, .istore 4, 2, 4, 0, []),
  (32, .iconst 0, 1, 0, nI 0, []),
  (33, .istore 5, 2, 5, 0, []),
  (35, .iconst 0, 1, 0, nI 0, []),
  (36, .istore 6, 2, 6, 0, []),
  (38, .iconst 0, 1, 0, nI 0, []),
  (39, .istore 7, 2, 7, 0, []),
  (41, .iload 7, 2, 7, 0, []),
  (43, .bipush 32, 2, 0, nI 32, []),
  (45, .if_icmp .ge 88, 3, 133, 0, []),
  (48, .iload_n 2, 1, 2, 0, []),
  (49, .iload 7, 2, 7, 0, []),
  (51, .invokestatic 139, 3, 0, 0, []),
  (54, .ifCond .ne 6, 3, 60, 0, []),
  (57, .goto 70, 3, 127, 0, []),
  (60, .aload_n 0, 1, 0, 0, []),
  (61, .aload_n 0, 1, 0, 0, []),
  (62, .iload 7, 2, 7, 0, []),
  (64, .invokevirtual 204, 3, 0, 0, []),
  (67, .invokevirtual 211, 3, 0, 0, []),
  (70, .istore 8, 2, 8, 0, []),
  (72, .iinc 5 1, 3, 5, nI 1, []),
  (75, .iload 8, 2, 8, 0, []),
  (77, .iload 4, 2, 4, 0, []),
  (79, .if_icmp .le 7, 3, 86, 0, []),
  (82, .iconst 1, 1, 0, nI 1, []),
  (83, .goto 19, 3, 102, 0, []),
  (86, .iload 8, 2, 8, 0, []),
  (88, .iload 4, 2, 4, 0, []),
  (90, .if_icmp .ne 10, 3, 100, 0, []),
  (93, .iload 6, 2, 6, 0, []),
  (95, .iconst 1, 1, 0, nI 1, []),
  (96, .iadd, 1, 0, 0, []),
  (97, .goto 5, 3, 102, 0, []),
  (100, .iload 6, 2, 6, 0, []),
  (102, .istore 6, 2, 6, 0, []),
  (104, .iload 8, 2, 8, 0, []),
  (106, .iload 4, 2, 4, 0, []),
  (108, .if_icmp .le 8, 3, 116, 0, []),
  (111, .iload 7, 2, 7, 0, []),
  (113, .goto 4, 3, 117, 0, []),
  (116, .iload_n 3, 1, 3, 0, []),
  (117, .istore_n 3, 1, 3, 0, []),
  (118, .iload 4, 2, 4, 0, []),
  (120, .iload 8, 2, 8, 0, []),
  (122, .invokestatic 134, 3, 0, 0, []),
  (125, .istore 4, 2, 4, 0, []),
  (127, .iinc 7 1, 3, 7, nI 1, []),
  (130, .goto (-89), 3, 41, 0, []),
  (133, .iload_n 1, 1, 1, 0, []),
  (134, .ifCond .ne 7, 3, 141, 0, []),
  (137, .iload_n 3, 1, 3, 0, []),
  (138, .goto 8, 3, 146, 0, []),
  (141, .iload 5, 2, 5, 0, []),
  (143, .iload 6, 2, 6, 0, []),
  (145, .isub, 1, 0, 0, []),
  (146, .ireturn, 1, 0, 0, [])]
theorem kk_X8_best : (k_X8_best.all fun e => mChk cX8_best e.1 e.2) = true := by decide +kernel
def l_X8_best : List (Nat × Nat × (mG → mT)) := [(3 * 214 + 1, 3, t_X8_in), (3 * 207, 0 + 1, t_X8_isLate), (3 * 201, 0 + 1, t_X8_mayPlay), (3 * 139 + 1, 2, t_X8_has), (3 * 204, 1 + 1, (t_X8_tried 13)), (3 * 211, 1 + 1, t_X8_forTurn), (3 * 134 + 1, 2, tMax)]
def f_X8_best (g : mG) : mF := (mLk k_X8_best, mLk fl_RX8, mLk (l_X8_best.map fun e => (e.1, e.2.1, e.2.2 g)), mLk ([] : List (Nat × mV)), mLk ([] : List (Nat × mV)), some .int)
theorem m_X8_best (g : mG) : mMono (f_X8_best g) := mMonoL (g := g) (l := l_X8_best) (List.forall_mem_cons.mpr ⟨mo_X8_in, List.forall_mem_cons.mpr ⟨mo_X8_isLate, List.forall_mem_cons.mpr ⟨mo_X8_mayPlay, List.forall_mem_cons.mpr ⟨mo_X8_has, List.forall_mem_cons.mpr ⟨(mo_X8_tried 13), List.forall_mem_cons.mpr ⟨mo_X8_forTurn, List.forall_mem_cons.mpr ⟨tMax_mono, fun _ h => absurd h List.not_mem_nil⟩⟩⟩⟩⟩⟩⟩) rfl

theorem w_best_0 (g : mG) (M : mM) (P : mP) (x : Int32)
    (h : (¬ (fIn x (nI 0) (nI 1)) = 0 → (¬ (M 50 5) = (nI 2) → ((nI 0) = 0 ∨ (nI 0) = 1) ∧ ((¬ (nI 0) = 0 → ∃ x4 : aX × (Nat → Int32) × List Nat, pre_X8_mayPlay x4 [.inr (some 50)] M ∧ ∀ (r6 : Int32) (M5 : mM), post_X8_mayPlay x4 [.inr (some 50)] M r6 M5 → (mRun (mSx g) (f_X8_best g) P (41, [some (.inr (some 50)), some (.inl x), some (.inl r6), some (.inl (-1)), some (.inl (-1)), some (.inl (nI 0)), some (.inl (nI 0)), some (.inl (nI 0)), none], [], M5))) ∧ (¬ (¬ (nI 0) = 0) → P (some (.inl (-3))) M))) ∧ (¬ (¬ (M 50 5) = (nI 2)) → ((nI 3) < ((nI 8) - (M 50 19)) → ((nI 0) = 0 ∨ (nI 0) = 1) ∧ ((¬ (nI 0) = 0 → ∃ x9 : aX × (Nat → Int32) × List Nat, pre_X8_mayPlay x9 [.inr (some 50)] M ∧ ∀ (r11 : Int32) (M10 : mM), post_X8_mayPlay x9 [.inr (some 50)] M r11 M10 → (mRun (mSx g) (f_X8_best g) P (41, [some (.inr (some 50)), some (.inl x), some (.inl r11), some (.inl (-1)), some (.inl (-1)), some (.inl (nI 0)), some (.inl (nI 0)), some (.inl (nI 0)), none], [], M10))) ∧ (¬ (¬ (nI 0) = 0) → P (some (.inl (-3))) M))) ∧ (¬ ((nI 3) < ((nI 8) - (M 50 19))) → ((nI 1) = 0 ∨ (nI 1) = 1) ∧ ((¬ (nI 1) = 0 → ∃ x13 : aX × (Nat → Int32) × List Nat, pre_X8_mayPlay x13 [.inr (some 50)] M ∧ ∀ (r15 : Int32) (M14 : mM), post_X8_mayPlay x13 [.inr (some 50)] M r15 M14 → (mRun (mSx g) (f_X8_best g) P (41, [some (.inr (some 50)), some (.inl x), some (.inl r15), some (.inl (-1)), some (.inl (-1)), some (.inl (nI 0)), some (.inl (nI 0)), some (.inl (nI 0)), none], [], M14))) ∧ (¬ (¬ (nI 1) = 0) → P (some (.inl (-3))) M))))) ∧ (¬ (¬ (fIn x (nI 0) (nI 1)) = 0) → P (some (.inl (-2))) M)) :
    mRun (mSx g) (f_X8_best g) P (0, [some (.inr (some 50)), some (.inl x), none, none, none, none, none, none, none], [], M) := mRun.vc (m_X8_best g) [41] 22 h

theorem w_best_41 (g : mG) (M : mM) (P : mP) (x m f mo n am c : Int32) (l8 : Option mV)
    (h : ((nI 32) ≤ c → (¬ x = 0 → P (some (.inl (n - am))) M) ∧ (¬ (¬ x = 0) → P (some (.inl f)) M)) ∧ (¬ ((nI 32) ≤ c) → (¬ (fHas m c) = 0 → ∃ x4 : aX × (Nat → Int32) × List Nat × Nat, pre_X8_tried 13 x4 [.inr (some 50), .inl c] M ∧ ∀ (r6 : Int32) (M5 : mM), post_X8_tried 13 x4 [.inr (some 50), .inl c] M r6 M5 → ((¬ (fSide (M5 50 6)) = 0 → (mRun (mSx g) (f_X8_best g) P (72, [some (.inr (some 50)), some (.inl x), some (.inl m), some (.inl f), some (.inl mo), some (.inl n), some (.inl am), some (.inl c), some (.inl (((nI 8) - (M5 50 19)) - r6))], [], M5))) ∧ (¬ (¬ (fSide (M5 50 6)) = 0) → (mRun (mSx g) (f_X8_best g) P (72, [some (.inr (some 50)), some (.inl x), some (.inl m), some (.inl f), some (.inl mo), some (.inl n), some (.inl am), some (.inl c), some (.inl r6)], [], M5))))) ∧ (¬ (¬ (fHas m c) = 0) → mRun (mSx g) (f_X8_best g) P (41, [some (.inr (some 50)), some (.inl x), some (.inl m), some (.inl f), some (.inl mo), some (.inl n), some (.inl am), some (.inl (c + (nI 1))), l8], [], M)))) :
    mRun (mSx g) (f_X8_best g) P (41, [some (.inr (some 50)), some (.inl x), some (.inl m), some (.inl f), some (.inl mo), some (.inl n), some (.inl am), some (.inl c), l8], [], M) := mRun.vc (m_X8_best g) [41, 72] 14 h

theorem w_best_72 (g : mG) (M : mM) (P : mP) (x m f mo n am c s : Int32)
    (h : (s ≤ mo → (¬ s = mo → (s ≤ mo → mRun (mSx g) (f_X8_best g) P (41, [some (.inr (some 50)), some (.inl x), some (.inl m), some (.inl f), some (.inl (if mo < s then s else mo)), some (.inl (n + (nI 1))), some (.inl am), some (.inl (c + (nI 1))), some (.inl s)], [], M)) ∧ (¬ (s ≤ mo) → mRun (mSx g) (f_X8_best g) P (41, [some (.inr (some 50)), some (.inl x), some (.inl m), some (.inl c), some (.inl (if mo < s then s else mo)), some (.inl (n + (nI 1))), some (.inl am), some (.inl (c + (nI 1))), some (.inl s)], [], M))) ∧ (¬ (¬ s = mo) → (s ≤ mo → mRun (mSx g) (f_X8_best g) P (41, [some (.inr (some 50)), some (.inl x), some (.inl m), some (.inl f), some (.inl (if mo < s then s else mo)), some (.inl (n + (nI 1))), some (.inl (am + (nI 1))), some (.inl (c + (nI 1))), some (.inl s)], [], M)) ∧ (¬ (s ≤ mo) → mRun (mSx g) (f_X8_best g) P (41, [some (.inr (some 50)), some (.inl x), some (.inl m), some (.inl c), some (.inl (if mo < s then s else mo)), some (.inl (n + (nI 1))), some (.inl (am + (nI 1))), some (.inl (c + (nI 1))), some (.inl s)], [], M)))) ∧ (¬ (s ≤ mo) → (s ≤ mo → mRun (mSx g) (f_X8_best g) P (41, [some (.inr (some 50)), some (.inl x), some (.inl m), some (.inl f), some (.inl (if mo < s then s else mo)), some (.inl (n + (nI 1))), some (.inl (nI 1)), some (.inl (c + (nI 1))), some (.inl s)], [], M)) ∧ (¬ (s ≤ mo) → mRun (mSx g) (f_X8_best g) P (41, [some (.inr (some 50)), some (.inl x), some (.inl m), some (.inl c), some (.inl (if mo < s then s else mo)), some (.inl (n + (nI 1))), some (.inl (nI 1)), some (.inl (c + (nI 1))), some (.inl s)], [], M)))) :
    mRun (mSx g) (f_X8_best g) P (72, [some (.inr (some 50)), some (.inl x), some (.inl m), some (.inl f), some (.inl mo), some (.inl n), some (.inl am), some (.inl c), some (.inl s)], [], M) := mRun.vc (m_X8_best g) [41] 25 h

theorem bL_add {f : Nat → Nat} {c : Nat} : ∀ {l : List Nat} {s : aBst}, bL f (l ++ [c]) s = bL f [c] (bL f l s)
  | [], _ => rfl
  | d :: l, s => by
    rw [List.cons_append, bL, bL_add (l := l)]
    rfl
theorem oN_eq {f m : Nat} (hf : f < 100) (hm : m < 100) : nI f = oN m ↔ m = f + 1 := by
  cases m with
  | zero =>
    refine ⟨fun h => absurd h (ne_m1 (by omega)), fun h => by omega⟩
  | succ m =>
    simp only [oN]
    rw [nI_eq (by omega) (by omega)]
    omega
theorem bestM_loop (g : mG) (P : mP) (M0 : mM) (z : aZ) (k : Nat) (hk : k < 2) (hI : zInv z) (l1 : (zT z.2.1).1.1 = 2) (l2 : 20 ≤ (zT z.2.1).2.2.1.2.2.2.2.length)
    (hQ : ∀ v M', v = (if k = 0 then (tBest (zT z.2.1)).2.1 else nI (tBest (zT z.2.1)).2.2.1) → RpM M' z → FrM M0 M' → P (some (.inl v)) M') :
    ∀ (n c : Nat) (s : aBst) (M : mM) (l8 : Option mV), c + n = 32 → s = bL (aG (zT z.2.1).2.2.1.1 (zT z.2.1).2.2.1.2.1 (zT z.2.1).2.2.1.2.2.2.2) (bts (ub (aAl (zT z.2.1).2.2.1.1 (zT z.2.1).2.2.1.2.1 (zT z.2.1).2.2.1.2.2.2.2)) c) (0, -1, 0, 0) → s.1 < 100 → s.2.2.1 ≤ s.2.2.2 → s.2.2.2 ≤ c → RpM M z → FrM M0 M →
    mRun (mSx g) (f_X8_best g) P (41, [some (.inr (some 50)), some (.inl (nI k)), some (.inl (aAl (zT z.2.1).2.2.1.1 (zT z.2.1).2.2.1.2.1 (zT z.2.1).2.2.1.2.2.2.2)), some (.inl s.2.1), some (.inl (oN s.1)), some (.inl (nI s.2.2.2)), some (.inl (nI (s.2.2.2 - s.2.2.1))), some (.inl (nI c)), l8], [], M) := by
  have hT := hI.T
  obtain ⟨k1, k2, -⟩ := hT.play l1
  have hbest : tBest (zT z.2.1) = bL (aG (zT z.2.1).2.2.1.1 (zT z.2.1).2.2.1.2.1 (zT z.2.1).2.2.1.2.2.2.2) (bts (ub (aAl (zT z.2.1).2.2.1.1 (zT z.2.1).2.2.1.2.1 (zT z.2.1).2.2.1.2.2.2.2)) 32) (0, -1, 0, 0) := rfl
  intro n
  induction n with
  | zero =>
    intro c s M l8 h hs h1 h2 h3 hR hF
    obtain rfl : c = 32 := by omega
    rw [hbest, ← hs] at hQ
    refine w_best_41 g M P _ _ _ _ _ _ _ _ ⟨fun _ => ⟨fun w => ?_, fun w => ?_⟩, fun w => absurd (nI_le (Nat.le_refl 32) (by decide)) w⟩
    · rw [pk_sub (by omega), show s.2.2.2 - (s.2.2.2 - s.2.2.1) = s.2.2.1 by omega]
      exact hQ _ _ (by rw [if_neg (fun q => w (by rw [q]; rfl))]) hR hF
    · exact hQ _ _ (by rw [if_pos ((nI_eq (b := 0) (by omega) (by decide)).mp (Classical.not_not.mp w))]) hR hF
  | succ n ih =>
    intro c s M l8 h hs h1 h2 h3 hR hF
    refine w_best_41 g M P _ _ _ _ _ _ _ _ ⟨fun w => absurd w (nI_ge (by omega) (by decide)), fun _ => ?_⟩
    rw [fHas_eq (by omega), mb_0, nI_add]
    refine ⟨fun w => ?_, fun w => ?_⟩
    · have hc0 := Classical.not_not.mp w
      have hg := (aG_le k1 k2 (show c < 32 by omega) hc0).2
      refine ⟨((zT z.2.1).2.2.1.1, (zT z.2.1).2.2.1.2.1, (zT z.2.1).2.2.1.2.2.2.2, c), ⟨rfl, hR.T.Q hT l1, k1, k2, by show c < 32; omega, hc0, by show 32 ≤ (zT z.2.1).2.2.1.2.2.2.2.length + 13; omega⟩, fun r M5 hr => ?_⟩
      obtain ⟨hv, hQ5, hF5⟩ := hr
      dsimp only at hv hQ5
      have hR5 := hR.R (hR.T.of hT l1 hQ5 hF5) hF5.R
      have hF0 := hF.trans hF5.M
      have e1 := bts_y hc0
      have go := ih (c + 1)
      rw [e1, bL_add, ← hs] at go
      refine gain_at (X := fun v => mRun (mSx g) (f_X8_best g) P (72, [some (.inr (some 50)), some (.inl (nI k)), some (.inl (aAl (zT z.2.1).2.2.1.1 (zT z.2.1).2.2.1.2.1 (zT z.2.1).2.2.1.2.2.2.2)), some (.inl s.2.1), some (.inl (oN s.1)), some (.inl (nI s.2.2.2)), some (.inl (nI (s.2.2.2 - s.2.2.1))), some (.inl (nI c)), some (.inl v)], [], M5)) k1 k2 (show c < 32 by omega) hc0 hQ5 hv ?_
      rw [bL, bL] at go
      generalize aG (zT z.2.1).2.2.1.1 (zT z.2.1).2.2.1.2.1 (zT z.2.1).2.2.1.2.2.2.2 c = gn at hg go ⊢
      refine w_best_72 g M5 P _ _ _ _ _ _ _ _ ?_
      rw [show (nI gn ≤ oN s.1) ↔ ¬ (s.1 < gn + 1) by rw [← oN_lt (by omega) h1, Int32.not_lt], oN_eq (by omega) h1, nI_add, nI_add]
      refine ⟨fun w1 => ⟨fun w2 => ⟨fun _ => ?_, fun y => absurd w1 y⟩, fun w2 => ⟨fun _ => ?_, fun y => absurd w1 y⟩⟩, fun w1 => ⟨fun y => absurd y w1, fun _ => ?_⟩⟩
      · rw [if_neg w1, if_pos (by omega)] at go
        rw [if_neg (fun q => w1 ((oN_lt (by omega) h1).mp q))]
        have := go (s.1, s.2.1, s.2.2.1 + 1, s.2.2.2 + 1) M5 (some (.inl (nI gn))) (by omega) rfl h1 (by show s.2.2.1 + 1 ≤ s.2.2.2 + 1; omega) (by show s.2.2.2 + 1 ≤ c + 1; omega) hR5 hF0
        dsimp only at this
        rw [show s.2.2.2 + 1 - (s.2.2.1 + 1) = s.2.2.2 - s.2.2.1 by omega] at this
        exact this
      · rw [if_neg w1, if_neg (by omega)] at go
        rw [if_neg (fun q => w1 ((oN_lt (by omega) h1).mp q)), nI_add]
        have := go (s.1, s.2.1, s.2.2.1, s.2.2.2 + 1) M5 (some (.inl (nI gn))) (by omega) rfl h1 (by show s.2.2.1 ≤ s.2.2.2 + 1; omega) (by show s.2.2.2 + 1 ≤ c + 1; omega) hR5 hF0
        dsimp only at this
        rw [show s.2.2.2 + 1 - s.2.2.1 = s.2.2.2 - s.2.2.1 + 1 by omega] at this
        exact this
      · have w1' := Classical.not_not.mp w1
        rw [if_pos w1'] at go
        rw [if_pos ((oN_lt (by omega) h1).mpr w1')]
        have := go (gn + 1, nI c, s.2.2.2, s.2.2.2 + 1) M5 (some (.inl (nI gn))) (by omega) rfl (by show gn + 1 < 100; omega) (by show s.2.2.2 ≤ s.2.2.2 + 1; omega) (by show s.2.2.2 + 1 ≤ c + 1; omega) hR5 hF0
        dsimp only at this
        rw [show s.2.2.2 + 1 - s.2.2.2 = 1 by omega] at this
        exact this
    · have e1 := bts_n (fun y => w (fun q => q y))
      exact ih (c + 1) s M l8 (by omega) (by rw [e1]; exact hs) h1 h2 (by omega) hR hF
theorem run_X8_best : mRunOf 9 t_X8_best f_X8_best := runM1 (by decide) (fun g M P z x hR hI hP => by
  have hT := hI.T
  have hQ : ∀ v M', v = (F_best z [x]).1 → RpM M' z → FrM M M' → P (some (.inl v)) M' := fun v M' e => hP v M' e
  refine w_best_0 g M P x ?_
  rw [fI1]
  rcases ix_cs x (n := 2) (by decide) with ⟨hx, e1⟩ | ⟨k, hk, rfl, e1⟩
  · rw [show (F_best z [x]).1 = -2 by simp only [F_best, e1]] at hQ
    rw [e1, mb_no]
    exact ⟨fun h => absurd rfl h, fun _ => hQ _ _ rfl hR FrM.refl⟩
  rw [show (F_best z [nI k]).1 = if dLate (zT z.2.1) = true then (if k = 0 then (tBest (zT z.2.1)).2.1 else nI (tBest (zT z.2.1)).2.2.1) else -3 by simp only [F_best, e1]] at hQ
  have no : dLate (zT z.2.1) = false → P (some (.inl (-3))) M := fun h => hQ _ _ (by rw [h, if_neg (by decide)]) hR FrM.refl
  rw [e1, mb_so]
  refine ⟨fun _ => late_cs (X := True) hR hI (fun h => ⟨fun w => absurd rfl w, fun _ => no h⟩) (fun h => ⟨fun _ => ?_, fun w => absurd (by decide) w⟩), fun h => absurd (by decide) h⟩
  obtain ⟨l1, l2⟩ := late_20 h
  obtain ⟨k1, k2, -⟩ := hT.play l1
  rw [if_pos h] at hQ
  refine ⟨((zT z.2.1).2.2.1.1, (zT z.2.1).2.2.1.2.1, (zT z.2.1).2.2.1.2.2.2.2), ⟨rfl, hR.T.Q hT l1, k1, k2⟩, fun r M5 hr => ?_⟩
  obtain ⟨rfl, rfl⟩ := hr
  dsimp only
  exact bestM_loop g P M5 z k hk hI l1 l2 hQ 32 0 (0, -1, 0, 0) M5 none rfl rfl (by decide) (Nat.le_refl _) (Nat.le_refl _) hR FrM.refl)

theorem ok_X8_best : mOK yX8_best cX8_best 9 (some .int) 34 t_X8_best := mOK.of f_X8_best (by decide) (fun _ => rfl) (fun g => mCodeOK kk_X8_best) (fun g => mFldL fk_RX8 rfl) (fun g idx v h => by cases h) (fun g idx v h => by cases h) (mCalL (l := l_X8_best) (List.forall_mem_cons.mpr ⟨mSite.S (idx := 214) ok_X8_in (by decide) (by decide) wc_X8_in wk_RX8_214 wt_X8_in wn_RX8 wd_X8_in, List.forall_mem_cons.mpr ⟨mSite.V (idx := 207) ok_X8_isLate (by decide) (by decide) rv_X8_isLate wc_X8_isLate wk_RX8_207 wi_X8_isLate wl_X8_isLate wn_RX8 wd_X8_isLate, List.forall_mem_cons.mpr ⟨mSite.V (idx := 201) ok_X8_mayPlay (by decide) (by decide) rv_X8_mayPlay wc_X8_mayPlay wk_RX8_201 wi_X8_mayPlay wl_X8_mayPlay wn_RX8 wd_X8_mayPlay, List.forall_mem_cons.mpr ⟨mSite.S (idx := 139) ok_X8_has (by decide) (by decide) wc_X8_has wk_RX8_139 wt_X8_has wn_RX8 wd_X8_has, List.forall_mem_cons.mpr ⟨mSite.V (idx := 204) (ok_X8_tried 13 (ok_X8_solved 13)) (by decide) (by decide) rv_X8_tried wc_X8_tried wk_RX8_204 wi_X8_tried wl_X8_tried wn_RX8 wd_X8_tried, List.forall_mem_cons.mpr ⟨mSite.V (idx := 211) ok_X8_forTurn (by decide) (by decide) rv_X8_forTurn wc_X8_forTurn wk_RX8_211 wi_X8_forTurn wl_X8_forTurn wn_RX8 wd_X8_forTurn, List.forall_mem_cons.mpr ⟨mSite.max (idx := 134) (by decide) wc_J9_max_7cf53 wk_RX8_134 wt_J9_max_7cf53 wn_RJ9, fun _ h => absurd h List.not_mem_nil⟩⟩⟩⟩⟩⟩⟩) (fun _ => rfl)) run_X8_best

