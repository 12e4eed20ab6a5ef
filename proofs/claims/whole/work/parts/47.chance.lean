/-! ===== CLASS TrickHouse: drawn, chance ===== -/
def tDr (T : aT) (s : Int32) : Nat := aWn T.2.2.1.1 (aDr T.2.2.1.1 T.2.2.1.2.1 (32 - T.2.2.1.2.2.2.2.length) s T.2.2.1.2.2.2.2) (T.2.1.2.2.1.getD 0 % 2) 8
def F_drawn (z : aZ) (as : List Int32) : Int32 × aZ := (match as with
  | [s] => if (zT z.2.1).1.1 = 2 then nI (tDr (zT z.2.1) s) else -3
  | _ => 0, z)
theorem pre_drawn {M : mM} {z : aZ} (hR : RpC M z) (hI : zInv z) (k : (zT z.2.1).1.1 = 2) (s : Int32) : pre_X7_drawnMade (((zT z.2.1).2.2.1.1, (zT z.2.1).2.2.1.2.1, (zT z.2.1).2.2.1.2.2.2.2), s, (zT z.2.1).2.1.2.2.1.getD 0) [.inr (some 0), .inl s] M := by
  obtain ⟨n, t, q, d, c1, c2, c3, -⟩ := hI.T.2.2.2.1 k
  have b7 : M 14 7 = oI (zT z.2.1).2.1.2.2.1 := hR.2.2.2.1.2.1.2.2.2.2.2.2.1
  refine ⟨rfl, play00 hR.2.2.2.1 hI.T k, (hI.T.play k).1, ?_, ?_⟩
  · rw [b7, c2]
    rfl
  · rw [c2]
    exact c3
abbrev t_X7_drawn : mG → mT := pub 1 F_drawn
theorem mo_X7_drawn : mMn t_X7_drawn := pub_mono
theorem rv_X7_drawn : mHasR yX7_drawn 1 t_X7_drawn := pub_recv rfl
def k_X7_drawn : List (Nat × mI) := [(0, .aload_n 0, 1, 0, 0, []),
  (1, .getfield 29, 3, 0, 0, []),
  (4, .getfield 146, 3, 0, 0, []),
  (7, .iconst 2, 1, 0, nI 2, []),
  (8, .if_icmp .ne 11, 3, 19, 0, []),
  (11, .aload_n 0, 1, 0, 0, []),
  (12, .iload_n 1, 1, 1, 0, []),
  (13, .invokevirtual 239, 3, 0, 0, []),
  (16, .goto 5, 3, 21, 0, []),
  (19, .bipush (-3), 2, 0, -3, []),
  (21, .ireturn, 1, 0, 0, [])]
theorem kk_X7_drawn : (k_X7_drawn.all fun e => mChk cX7_drawn e.1 e.2) = true := by decide +kernel
def l_X7_drawn : List (Nat × Nat × (mG → mT)) := [(3 * 239, 1 + 1, t_X7_drawnMade)]
def f_X7_drawn (g : mG) : mF := (mLk k_X7_drawn, mLk fl_RX7, mLk (l_X7_drawn.map fun e => (e.1, e.2.1, e.2.2 g)), mLk ([] : List (Nat × mV)), mLk ([] : List (Nat × mV)), some .int)
theorem m_X7_drawn (g : mG) : mMono (f_X7_drawn g) := mMonoL (g := g) (l := l_X7_drawn) (List.forall_mem_cons.mpr ⟨mo_X7_drawnMade, fun _ h => absurd h List.not_mem_nil⟩) rfl

theorem v_drawn (g : mG) (M : mM) (P : mP) (x : Int32)
    (h : (¬ (M 13 3) = (nI 2) → P (some (.inl (-3))) M) ∧ (¬ (¬ (M 13 3) = (nI 2)) → ∃ x2 : (aX × (Nat → Int32) × List Nat) × Int32 × Nat, pre_X7_drawnMade x2 [.inr (some 0), .inl x] M ∧ ∀ (r4 : Int32) (M3 : mM), post_X7_drawnMade x2 [.inr (some 0), .inl x] M r4 M3 → (P (some (.inl r4)) M3))) :
    mRun (mSx g) (f_X7_drawn g) P (0, [some (.inr (some 0)), some (.inl x)], [], M) := mRun.vc (m_X7_drawn g) [] 10 h

theorem run_X7_drawn : mRunOf 2 t_X7_drawn f_X7_drawn := runC1 (by decide) (fun g M P z x hR hI hP => by
  have hT := hI.T
  obtain ⟨e3, -⟩ := RpC_play hR
  have hQ : ∀ v M', v = (if (zT z.2.1).1.1 = 2 then nI (tDr (zT z.2.1) x) else -3) → RpC M' z → FrC M M' → P (some (.inl v)) M' := fun v M' e => hP v M' e
  refine v_drawn g M P x ?_
  rw [e3, show nI (zT z.2.1).1.1 = nI 2 ↔ (zT z.2.1).1.1 = 2 from nI_at2 hT.1.1 (by decide)]
  refine ⟨fun h => ?_, fun h => ?_⟩
  · rw [if_neg h] at hQ
    exact hQ _ _ rfl hR FrC.refl
  · have h' := Classical.not_not.mp h
    rw [if_pos h'] at hQ
    refine ⟨_, pre_drawn hR hI h' x, fun r M2 hr => ?_⟩
    exact hQ r M2 hr.1 (RpC_thought hR hr.2) (FrP_C hr.2))

theorem ok_X7_drawn : mOK yX7_drawn cX7_drawn 2 (some .int) 5 t_X7_drawn := mOK.of f_X7_drawn (by decide) (fun _ => rfl) (fun g => mCodeOK kk_X7_drawn) (fun g => mFldL fk_RX7 rfl) (fun g idx v h => by cases h) (fun g idx v h => by cases h) (mCalL (l := l_X7_drawn) (List.forall_mem_cons.mpr ⟨mSite.V (idx := 239) ok_X7_drawnMade (by decide) (by decide) rv_X7_drawnMade wc_X7_drawnMade wk_RX7_239 wi_X7_drawnMade wl_X7_drawnMade wn_RX7 wd_X7_drawnMade, fun _ h => absurd h List.not_mem_nil⟩) (fun _ => rfl)) run_X7_drawn

def cG (f : Nat → Bool) : Nat → Nat
  | 0 => 0
  | k + 1 => cG f k + (if f k then 1 else 0)
theorem cG_le (f : Nat → Bool) : ∀ k, cG f k ≤ k
  | 0 => Nat.le_refl _
  | k + 1 => by
    have := cG_le f k
    rw [cG]
    split <;> omega
/-- in how many of m seeds the bid is made -/
def tGood (T : aT) (s : Int32) (m : Nat) : Nat := cG (fun k => decide ((T.2.1.2.1.map fun q => q.1).getD 0 ≤ tDr T (s + nI k))) m
def F_chance (z : aZ) (as : List Int32) : Int32 × aZ := (match as with
  | [s, m, q] => match ix (m - nI 1) 20 with
    | none => -2
    | some m => match ix q 2 with
      | none => -2
      | some q => if (zT z.2.1).1.1 = 2 then nI (aLt (if q = 0 then tGood (zT z.2.1) s (m + 1) else m + 1) (tGood (zT z.2.1) s (m + 1)) (m + 1) (m + 1)) else -3
  | _ => 0, z)
theorem ix_m1 {b : Int32} : ((b < nI 1 ∨ nI 20 < b) ∧ ix (b - nI 1) 20 = none) ∨ ∃ j, j < 20 ∧ b = nI (j + 1) ∧ ix (b - nI 1) 20 = some j := by
  rcases ix_cs (b - nI 1) (n := 20) (by decide) with ⟨h, e⟩ | ⟨j, hj, h, e⟩
  · refine Or.inl ⟨?_, e⟩
    rcases pk_ix b (n := 21) (by decide) with h1 | h1 | ⟨i, hi, rfl⟩
    · left
      simp (disch := omega) only [fa_lt, nI_toInt, Int32.toInt_zero] at h1 ⊢
      omega
    · right
      simp (disch := omega) only [fa_lt, fa_le, nI_toInt, Int32.toInt_zero] at h1 ⊢
      omega
    · rcases Nat.lt_or_ge i 1 with hi4 | hi4
      · exact Or.inl (nI_lt hi4 (by decide))
      · rw [pk_sub hi4, ix_at (by omega) (by decide)] at e
        cases e
  · refine Or.inr ⟨j, hj, ?_, e⟩
    rw [← nI_add, ← h]
    exact (Int32.sub_add_cancel b (nI 1)).symm
abbrev t_X7_chance : mG → mT := pub 3 F_chance
theorem mo_X7_chance : mMn t_X7_chance := pub_mono
theorem rv_X7_chance : mHasR yX7_chance 3 t_X7_chance := pub_recv rfl
def k_X7_chance : List (Nat × mI) := [(0, .iload_n 2, 1, 2, 0, []),
  (1, .iconst 1, 1, 0, nI 1, []),
  (2, .if_icmp .lt 18, 3, 20, 0, []),
  (5, .iload_n 2, 1, 2, 0, []),
  (6, .bipush 20, 2, 0, nI 20, []),
  (8, .if_icmp .gt 12, 3, 20, 0, []),
  (11, .iload_n 3, 1, 3, 0, []),
  (12, .ifCond .lt 8, 3, 20, 0, []),
  (15, .iload_n 3, 1, 3, 0, []),
  (16, .iconst 1, 1, 0, nI 1, []),
  (17, .if_icmp .le 6, 3, 23, 0, []),
  (20, .bipush (-2), 2, 0, -2, []),
  (22, .ireturn, 1, 0, 0, []),
  (23, .aload_n 0, 1, 0, 0, []),
  (24, .getfield 29, 3, 0, 0, []),
  (27, .getfield 146, 3, 0, 0, []),
  (30, .iconst 2, 1, 0, nI 2, []),
  (31, .if_icmp .eq 6, 3, 37, 0, []),
  (34, .bipush (-3), 2, 0, -3, []),
  (36, .ireturn, 1, 0, 0, []),
  (37, .iconst 0, 1, 0, nI 0, []),
  (38, .istore 4, 2, 4, 0, []),
  (40, .iconst 0, 1, 0, nI 0, []),
  (41, .istore 5, 2, 5, 0, []),
  (43, .iload 5, 2, 5, 0, []),
  (45, .iload_n 2, 1, 2, 0, []),
  (46, .if_icmp .ge 33, 3, 79, 0, []),
  (49, .aload_n 0, 1, 0, 0, []),
  (50, .iload_n 1, 1, 1, 0, []),
  (51, .iload 5, 2, 5, 0, []),
  (53, .iadd, 1, 0, 0, []),
  (54, .invokevirtual 239, 3, 0, 0, []),
  (57, .aload_n 0, 1, 0, 0, []),
  (58, .getfield 29, 3, 0, 0, []),
  (61, .getfield 181, 3, 0, 0, []),
  (64, .getfield 242, 3, 0, 0, []),
  (67, .if_icmp .lt 6, 3, 73, 0, []),
  (70, .iinc 4 1, 3, 4, nI 1, []),
  (73, .iinc 5 1, 3, 5, nI 1, []),
  (76, .goto (-33), 3, 43, 0, []),
  (79, .iload_n 3, 1, 3, 0, []),
  (80, .ifCond .ne 8, 3, 88, 0, []),
  (83, .iload 4, 2, 4, 0, []),
  (85, .goto 4, 3, 89, 0, []),
  (88, .iload_n 2, 1, 2, 0, []),
  (89, .iload 4, 2, 4, 0, []),
  (91, .iload_n 2, 1, 2, 0, []),
  (92, .invokestatic 243, 3, 0, 0, []),
  (95, .ireturn, 1, 0, 0, [])]
theorem kk_X7_chance : (k_X7_chance.all fun e => mChk cX7_chance e.1 e.2) = true := by decide +kernel
def l_X7_chance : List (Nat × Nat × (mG → mT)) := [(3 * 239, 1 + 1, t_X7_drawnMade), (3 * 243 + 1, 3, t_X7_inLowestTerms)]
def f_X7_chance (g : mG) : mF := (mLk k_X7_chance, mLk fl_RX7, mLk (l_X7_chance.map fun e => (e.1, e.2.1, e.2.2 g)), mLk ([] : List (Nat × mV)), mLk ([] : List (Nat × mV)), some .int)
theorem m_X7_chance (g : mG) : mMono (f_X7_chance g) := mMonoL (g := g) (l := l_X7_chance) (List.forall_mem_cons.mpr ⟨mo_X7_drawnMade, List.forall_mem_cons.mpr ⟨mo_X7_inLowestTerms, fun _ h => absurd h List.not_mem_nil⟩⟩) rfl

theorem v_chance_0 (g : mG) (M : mM) (P : mP) (x y u : Int32)
    (h : (y < (nI 1) → P (some (.inl (-2))) M) ∧ (¬ (y < (nI 1)) → ((nI 20) < y → P (some (.inl (-2))) M) ∧ (¬ ((nI 20) < y) → (u < 0 → P (some (.inl (-2))) M) ∧ (¬ (u < 0) → (u ≤ (nI 1) → ((M 13 3) = (nI 2) → mRun (mSx g) (f_X7_chance g) P (43, [some (.inr (some 0)), some (.inl x), some (.inl y), some (.inl u), some (.inl (nI 0)), some (.inl (nI 0))], [], M)) ∧ (¬ ((M 13 3) = (nI 2)) → P (some (.inl (-3))) M)) ∧ (¬ (u ≤ (nI 1)) → P (some (.inl (-2))) M))))) :
    mRun (mSx g) (f_X7_chance g) P (0, [some (.inr (some 0)), some (.inl x), some (.inl y), some (.inl u), none, none], [], M) := mRun.vc (m_X7_chance g) [43] 21 h

theorem v_chance_43 (g : mG) (M : mM) (P : mP) (x y u gd k : Int32)
    (h : (y ≤ k → (¬ u = 0 → ∃ x3 : Nat × Nat × Nat, pre_X7_inLowestTerms x3 [.inl y, .inl gd, .inl y] M ∧ ∀ (r5 : Int32) (M4 : mM), post_X7_inLowestTerms x3 [.inl y, .inl gd, .inl y] M r5 M4 → (P (some (.inl r5)) M4)) ∧ (¬ (¬ u = 0) → ∃ x6 : Nat × Nat × Nat, pre_X7_inLowestTerms x6 [.inl gd, .inl gd, .inl y] M ∧ ∀ (r8 : Int32) (M7 : mM), post_X7_inLowestTerms x6 [.inl gd, .inl gd, .inl y] M r8 M7 → (P (some (.inl r8)) M7))) ∧ (¬ (y ≤ k) → ∃ x9 : (aX × (Nat → Int32) × List Nat) × Int32 × Nat, pre_X7_drawnMade x9 [.inr (some 0), .inl (x + k)] M ∧ ∀ (r11 : Int32) (M10 : mM), post_X7_drawnMade x9 [.inr (some 0), .inl (x + k)] M r11 M10 → ((r11 < (M10 14 2) → mRun (mSx g) (f_X7_chance g) P (43, [some (.inr (some 0)), some (.inl x), some (.inl y), some (.inl u), some (.inl gd), some (.inl (k + (nI 1)))], [], M10)) ∧ (¬ (r11 < (M10 14 2)) → mRun (mSx g) (f_X7_chance g) P (43, [some (.inr (some 0)), some (.inl x), some (.inl y), some (.inl u), some (.inl (gd + (nI 1))), some (.inl (k + (nI 1)))], [], M10))))) :
    mRun (mSx g) (f_X7_chance g) P (43, [some (.inr (some 0)), some (.inl x), some (.inl y), some (.inl u), some (.inl gd), some (.inl k)], [], M) := mRun.vc (m_X7_chance g) [43] 17 h

theorem chance_loop (g : mG) (P : mP) (M0 : mM) (z : aZ) (x : Int32) (m q : Nat) (hm : m < 100) (hq : q < 2) (hI : zInv z) (l1 : (zT z.2.1).1.1 = 2)
    (hQ : ∀ v M', v = nI (aLt (if q = 0 then tGood (zT z.2.1) x m else m) (tGood (zT z.2.1) x m) m m) → RpC M' z → FrC M0 M' → P (some (.inl v)) M') :
    ∀ (j k : Nat) (M : mM), k + j = m → RpC M z → FrC M0 M →
    mRun (mSx g) (f_X7_chance g) P (43, [some (.inr (some 0)), some (.inl x), some (.inl (nI m)), some (.inl (nI q)), some (.inl (nI (tGood (zT z.2.1) x k))), some (.inl (nI k))], [], M)
  | 0, k, M, h, hR, hF => by
    obtain rfl : k = m := by omega
    have hg := cG_le (fun k => decide (((zT z.2.1).2.1.2.1.map fun q => q.1).getD 0 ≤ tDr (zT z.2.1) (x + nI k))) k
    have hg' : tGood (zT z.2.1) x k ≤ k := hg
    have bk : k < 2 ^ 31 := by omega
    have bg : tGood (zT z.2.1) x k < 2 ^ 31 := by omega
    refine v_chance_43 g M P _ _ _ _ _ ⟨fun _ => ?_, fun w => absurd (nI_le (Nat.le_refl k) (by omega)) w⟩
    refine ⟨fun h1 => ?_, fun h1 => ?_⟩
    · rw [if_neg (fun w => h1 (by rw [w]; rfl))] at hQ
      refine ⟨(k, tGood (zT z.2.1) x k, k), ⟨rfl, bk, bg, bk⟩, fun r M2 hr => ?_⟩
      obtain ⟨rfl, rfl⟩ := hr
      exact hQ _ _ rfl hR hF
    · rw [if_pos ((nI_eq (b := 0) (by omega) (by decide)).mp (Classical.not_not.mp h1))] at hQ
      refine ⟨(tGood (zT z.2.1) x k, tGood (zT z.2.1) x k, k), ⟨rfl, bg, bg, bk⟩, fun r M2 hr => ?_⟩
      obtain ⟨rfl, rfl⟩ := hr
      exact hQ _ _ rfl hR hF
  | j + 1, k, M, h, hR, hF => by
    obtain ⟨n, t, b, d, c1, c2, c3, c3b, c3c, c3d, -⟩ := hI.T.2.2.2.1 l1
    refine v_chance_43 g M P _ _ _ _ _ ⟨fun w => absurd w (nI_ge (by omega) (by omega)), fun _ => ?_⟩
    refine ⟨_, pre_drawn hR hI l1 (x + nI k), fun r M2 hr => ?_⟩
    have hR2 := RpC_thought hR hr.2
    have hF2 := hF.trans (FrP_C hr.2)
    have hr1 : r = nI (tDr (zT z.2.1) (x + nI k)) := hr.1
    have b2 : M2 14 2 = nI n := by
      have : M2 14 2 = oI ((zT z.2.1).2.1.2.1.map fun q => q.1) := hR2.2.2.2.1.2.1.2.2.2.1
      rw [this, c1]
      rfl
    have hw : tDr (zT z.2.1) (x + nI k) ≤ 8 := aWn_le _
    have ee : nI k + nI 1 = nI (k + 1) := nI_add _ _
    rw [hr1, b2, ee]
    have go := chance_loop g P M0 z x m q hm hq hI l1 hQ j (k + 1) M2 (by omega) hR2 hF2
    have e1 : ((zT z.2.1).2.1.2.1.map fun q => q.1).getD 0 = n := by rw [c1]; rfl
    refine ⟨fun w => ?_, fun w => ?_⟩
    · have w' := (nI_ltI (by omega) (by omega)).mp w
      have e : tGood (zT z.2.1) x (k + 1) = tGood (zT z.2.1) x k := by
        unfold tGood
        rw [cG, e1, if_neg (by rw [decide_eq_true_eq]; omega), Nat.add_zero]
      rw [e] at go
      exact go
    · have w' : ¬ tDr (zT z.2.1) (x + nI k) < n := fun y => w (nI_lt y (by omega))
      have e : tGood (zT z.2.1) x (k + 1) = tGood (zT z.2.1) x k + 1 := by
        unfold tGood
        rw [cG, e1, if_pos (by rw [decide_eq_true_eq]; omega)]
      rw [e] at go
      rw [nI_add]
      exact go
theorem run_X7_chance : mRunOf 6 t_X7_chance f_X7_chance := runC3 (by decide) (fun g M P z x y u hR hI hP => by
  have hT := hI.T
  obtain ⟨e3, -⟩ := RpC_play hR
  have hQ : ∀ v M', v = (F_chance z [x, y, u]).1 → RpC M' z → FrC M M' → P (some (.inl v)) M' := fun v M' e => hP v M' e
  refine v_chance_0 g M P x y u ?_
  rw [e3, show nI (zT z.2.1).1.1 = nI 2 ↔ (zT z.2.1).1.1 = 2 from nI_at2 hT.1.1 (by decide)]
  rcases ix_m1 (b := y) with ⟨hy, e1⟩ | ⟨m, hm, rfl, e1⟩
  · rw [show (F_chance z [x, y, u]).1 = -2 by simp only [F_chance, e1]] at hQ
    refine ⟨fun _ => hQ _ _ rfl hR FrC.refl, fun h1 => ⟨fun _ => hQ _ _ rfl hR FrC.refl, fun h2 => absurd (hy.resolve_left h1) h2⟩⟩
  refine ⟨fun h => absurd h (nI_nlt (by omega) (by omega)), fun _ => ⟨fun h => absurd h (nI_nlt (by omega) (by decide)), fun _ => ?_⟩⟩
  rcases ix_cs u (n := 2) (by decide) with ⟨hx, e2⟩ | ⟨q, hq, rfl, e2⟩
  · rw [show (F_chance z [x, nI (m + 1), u]).1 = -2 by simp only [F_chance, e1, e2]] at hQ
    refine ⟨fun _ => hQ _ _ rfl hR FrC.refl, fun h1 => ⟨fun h2 => ?_, fun _ => hQ _ _ rfl hR FrC.refl⟩⟩
    exfalso
    simp (disch := omega) only [fa_lt, fa_le, nI_toInt, Int32.toInt_zero] at hx h1 h2
    omega
  rw [show (F_chance z [x, nI (m + 1), nI q]).1 = if (zT z.2.1).1.1 = 2 then nI (aLt (if q = 0 then tGood (zT z.2.1) x (m + 1) else m + 1) (tGood (zT z.2.1) x (m + 1)) (m + 1) (m + 1)) else -3 by simp only [F_chance, e1, e2]] at hQ
  refine ⟨fun h => absurd h (nI_pos (by omega)), fun _ => ⟨fun _ => ?_, fun h => absurd (nI_le (by omega) (by decide)) h⟩⟩
  refine ⟨fun h => ?_, fun h => ?_⟩
  · rw [if_pos h] at hQ
    exact chance_loop g P M z x (m + 1) q (by omega) hq hI h hQ (m + 1) 0 M (by omega) hR FrC.refl
  · rw [if_neg h] at hQ
    exact hQ _ _ rfl hR FrC.refl)

theorem ok_X7_chance : mOK yX7_chance cX7_chance 6 (some .int) 5 t_X7_chance := mOK.of f_X7_chance (by decide) (fun _ => rfl) (fun g => mCodeOK kk_X7_chance) (fun g => mFldL fk_RX7 rfl) (fun g idx v h => by cases h) (fun g idx v h => by cases h) (mCalL (l := l_X7_chance) (List.forall_mem_cons.mpr ⟨mSite.V (idx := 239) ok_X7_drawnMade (by decide) (by decide) rv_X7_drawnMade wc_X7_drawnMade wk_RX7_239 wi_X7_drawnMade wl_X7_drawnMade wn_RX7 wd_X7_drawnMade, List.forall_mem_cons.mpr ⟨mSite.S (idx := 243) ok_X7_inLowestTerms (by decide) (by decide) wc_X7_inLowestTerms wk_RX7_243 wt_X7_inLowestTerms wn_RX7 wd_X7_inLowestTerms, fun _ h => absurd h List.not_mem_nil⟩⟩) (fun _ => rfl)) run_X7_chance

