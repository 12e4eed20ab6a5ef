/-! ===== CLASS TrickHouse: a draw; lowest terms ===== -/
/-- the card that the seed z draws -/
def aCh (x : aX) (dl : Nat → Int32) (z : Int32) (cs : List Nat) : Nat := (bts (ub (aAl x dl cs)) 32).getD (ub z / 512 % (bts (ub (aAl x dl cs)) 32).length) 0
/-- the cards after n more draws -/
def aDr (x : aX) (dl : Nat → Int32) : Nat → Int32 → List Nat → List Nat
  | 0, _, cs => cs
  | n + 1, z, cs => aDr x dl n (fNext z) (cs ++ [aCh x dl (fNext z) cs])
theorem al_pos {x : aX} {dl : Nat → Int32} {cs : List Nat} (hok : aOk x dl cs) (hn : cs.length < 32) : 0 < (bts (ub (aAl x dl cs)) 32).length := by
  have h := aAl_ne hok hn
  rcases Nat.eq_zero_or_pos (bts (ub (aAl x dl cs)) 32).length with h0 | h0
  · exact absurd (bts_nil (List.eq_nil_of_length_eq_zero h0)) h
  · exact h0
theorem aCh_in {x : aX} {dl : Nat → Int32} {cs : List Nat} (z : Int32) (hok : aOk x dl cs) (hn : cs.length < 32) : aCh x dl z cs < 32 ∧ bt (aAl x dl cs) (aCh x dl z cs) = true := by
  have h0 := al_pos hok hn
  refine bts_lt ?_
  unfold aCh
  generalize bts (ub (aAl x dl cs)) 32 = l at *
  rw [List.getD_eq_getElem?_getD, List.getElem?_eq_getElem (Nat.mod_lt _ h0)]
  exact List.getElem_mem _
theorem aDr_ok {x : aX} {dl : Nat → Int32} : ∀ (n : Nat) (z : Int32) (cs : List Nat), n + cs.length = 32 → aOk x dl cs → aOk x dl (aDr x dl n z cs) ∧ (aDr x dl n z cs).length = 32
  | 0, _, cs, hn, hok => ⟨hok, (Nat.zero_add _).symm.trans hn⟩
  | n + 1, z, cs, hn, hok => by
    have h := aCh_in (fNext z) hok (by omega)
    exact aDr_ok n (fNext z) (cs ++ [aCh x dl (fNext z) cs]) (by rw [List.length_append, List.length_singleton]; omega) (al_ok hok (by omega) h.1 h.2)
def pre_X7_drawnMade (q : (aX × (Nat → Int32) × List Nat) × Int32 × Nat) (as : List mV) (M : mM) : Prop := as = [.inr (some 0), .inl q.2.1] ∧ RpP 16 M q.1.1 q.1.2.1 0 0 q.1.2.2 ∧ aOk q.1.1 q.1.2.1 q.1.2.2 ∧ M 14 7 = nI q.2.2 ∧ q.2.2 < 4
def post_X7_drawnMade (q : (aX × (Nat → Int32) × List Nat) × Int32 × Nat) (_ : List mV) (M : mM) (v : Int32) (M' : mM) : Prop := v = nI (aWn q.1.1 (aDr q.1.1 q.1.2.1 (32 - q.1.2.2.length) q.2.1 q.1.2.2) (q.2.2 % 2) 8) ∧ FrP 29 M M'
abbrev t_X7_drawnMade : mG → mT := mRi pre_X7_drawnMade post_X7_drawnMade
theorem mo_X7_drawnMade : mMn t_X7_drawnMade := mRi_mono
theorem rv_X7_drawnMade : mHasR yX7_drawnMade 1 t_X7_drawnMade := by
  intro g as M P hT hl
  obtain ⟨q, ⟨h2, -⟩, -⟩ := hT
  exact ⟨_, _, h2, is_X7 g _ rfl⟩
def k_X7_drawnMade : List (Nat × mI) := [(0, .aload_n 0, 1, 0, 0, []),
  (1, .getfield 33, 3, 0, 0, []),
  (4, .getfield 134, 3, 0, 0, []),
  (7, .astore_n 2, 1, 2, 0, []),
  (8, .aload_n 2, 1, 2, 0, []),
  (9, .aload_n 0, 1, 0, 0, []),
  (10, .getfield 29, 3, 0, 0, []),
  (13, .getfield 134, 3, 0, 0, []),
  (16, .invokevirtual 345, 3, 0, 0, []),
  (19, .iload_n 1, 1, 1, 0, []),
  (20, .istore_n 3, 1, 3, 0, []),
  (21, .iconst 0, 1, 0, nI 0, []),
  (22, .istore 4, 2, 4, 0, []),
  (24, .iload 4, 2, 4, 0, []),
  (26, .bipush 32, 2, 0, nI 32, []),
  (28, .if_icmp .ge 51, 3, 79, 0, []),
  (31, .aload_n 2, 1, 2, 0, []),
  (32, .invokevirtual 152, 3, 0, 0, []),
  (35, .istore 5, 2, 5, 0, []),
  (37, .iload 5, 2, 5, 0, []),
  (39, .invokestatic 231, 3, 0, 0, []),
  (42, .istore 6, 2, 6, 0, []),
  (44, .iload 6, 2, 6, 0, []),
  (46, .ifCond .ne 6, 3, 52, 0, []),
  (49, .goto 30, 3, 79, 0, []),
  (52, .iload_n 3, 1, 3, 0, []),
  (53, .invokestatic 372, 3, 0, 0, []),
  (56, .istore_n 3, 1, 3, 0, []),
  (57, .aload_n 2, 1, 2, 0, []),
  (58, .iload 5, 2, 5, 0, []),
  (60, .iload_n 3, 1, 3, 0, []),
  (61, .bipush 9, 2, 0, nI 9, []),
  (63, .iushr, 1, 0, 0, []),
  (64, .iload 6, 2, 6, 0, []),
  (66, .irem, 1, 0, 0, []),
  (67, .invokestatic 375, 3, 0, 0, []),
  (70, .invokevirtual 355, 3, 0, 0, []),
  (73, .iinc 4 1, 3, 4, nI 1, []),
  (76, .goto (-52), 3, 24, 0, []),
  (79, .aload_n 2, 1, 2, 0, []),
  (80, .getfield 352, 3, 0, 0, []),
  (83, .aload_n 0, 1, 0, 0, []),
  (84, .getfield 29, 3, 0, 0, []),
  (87, .getfield 181, 3, 0, 0, []),
  (90, .getfield 378, 3, 0, 0, []),
  (93, .iconst 1, 1, 0, nI 1, []),
  (94, .iand, 1, 0, 0, []),
  (95, .invokestatic 107, 3, 0, 0, []),
  (98, .ireturn, 1, 0, 0, [])]
theorem kk_X7_drawnMade : (k_X7_drawnMade.all fun e => mChk cX7_drawnMade e.1 e.2) = true := by decide +kernel
def l_X7_drawnMade : List (Nat × Nat × (mG → mT)) := [(3 * 345, 1 + 1, t_X2_become), (3 * 152, 0 + 1, t_X2_allowed), (3 * 231 + 1, 1, t_J6_bitCount_0f7a4), (3 * 372 + 1, 1, t_X7_nextSeed), (3 * 375 + 1, 2, t_X7_cardByNumber), (3 * 355, 1 + 1, t_X2_lay), (3 * 107 + 1, 2, t_X7_at)]
def f_X7_drawnMade (g : mG) : mF := (mLk k_X7_drawnMade, mLk fl_RX7, mLk (l_X7_drawnMade.map fun e => (e.1, e.2.1, e.2.2 g)), mLk ([] : List (Nat × mV)), mLk ([] : List (Nat × mV)), some .int)
theorem m_X7_drawnMade (g : mG) : mMono (f_X7_drawnMade g) := mMonoL (g := g) (l := l_X7_drawnMade) (List.forall_mem_cons.mpr ⟨mo_X2_become, List.forall_mem_cons.mpr ⟨mo_X2_allowed, List.forall_mem_cons.mpr ⟨mo_J6_bitCount_0f7a4, List.forall_mem_cons.mpr ⟨mo_X7_nextSeed, List.forall_mem_cons.mpr ⟨mo_X7_cardByNumber, List.forall_mem_cons.mpr ⟨mo_X2_lay, List.forall_mem_cons.mpr ⟨mo_X7_at, fun _ h => absurd h List.not_mem_nil⟩⟩⟩⟩⟩⟩⟩) rfl

theorem v_dm_0 (g : mG) (M : mM) (P : mP) (y : Int32)
    (h : ∃ x1 : aP, pre_X2_become x1 [.inr (some 29), .inr (some 16)] M ∧ ∀ M2 : mM, post_X2_become x1 [.inr (some 29), .inr (some 16)] M M2 → (mRun (mSx g) (f_X7_drawnMade g) P (24, [some (.inr (some 0)), some (.inl y), some (.inr (some 29)), some (.inl y), some (.inl (nI 0)), none, none], [], M2))) :
    mRun (mSx g) (f_X7_drawnMade g) P (0, [some (.inr (some 0)), some (.inl y), none, none, none, none, none], [], M) := mRun.vc (m_X7_drawnMade g) [24] 14 h

theorem v_dm_24 (g : mG) (M : mM) (P : mP) (y z k : Int32) (l5 l6 : Option mV)
    (h : ((nI 32) ≤ k → P (some (.inl (aAt (M 36) 2 ((M 14 7) &&& (nI 1))))) M) ∧ (¬ (nI 32) ≤ k → ∃ x1 : Nat × aP, pre_X2_allowed x1 [.inr (some 29)] M ∧ ∀ (r3 : Int32) (M2 : mM), post_X2_allowed x1 [.inr (some 29)] M r3 M2 → ((¬ (popC r3) = 0 → ¬ (popC r3) = 0 ∧ (∃ x4 : Nat × Int32, pre_X7_cardByNumber x4 [.inl r3, .inl ((((fNext z).toUInt32 >>> ((nI 9).toUInt32 &&& Int32.toUInt32 31)).toInt32) - (((fNext z).toUInt32 >>> ((nI 9).toUInt32 &&& Int32.toUInt32 31)).toInt32) / (popC r3) * (popC r3))] M2 ∧ ∀ (r6 : Int32) (M5 : mM), post_X7_cardByNumber x4 [.inl r3, .inl ((((fNext z).toUInt32 >>> ((nI 9).toUInt32 &&& Int32.toUInt32 31)).toInt32) - (((fNext z).toUInt32 >>> ((nI 9).toUInt32 &&& Int32.toUInt32 31)).toInt32) / (popC r3) * (popC r3))] M2 r6 M5 → (∃ x7 : Nat × aP × Nat, pre_X2_lay x7 [.inr (some 29), .inl r6] M5 ∧ ∀ M8 : mM, post_X2_lay x7 [.inr (some 29), .inl r6] M5 M8 → (mRun (mSx g) (f_X7_drawnMade g) P (24, [some (.inr (some 0)), some (.inl y), some (.inr (some 29)), some (.inl (fNext z)), some (.inl (k + (nI 1))), some (.inl r3), some (.inl (popC r3))], [], M8))))) ∧ (¬ (¬ (popC r3) = 0) → P (some (.inl (aAt (M2 36) 2 ((M2 14 7) &&& (nI 1))))) M2)))) :
    mRun (mSx g) (f_X7_drawnMade g) P (24, [some (.inr (some 0)), some (.inl y), some (.inr (some 29)), some (.inl z), some (.inl k), l5, l6], [], M) := mRun.vc (m_X7_drawnMade g) [24] 26 h

theorem dm_loop (g : mG) (P : mP) (M0 : mM) (x : aX) (dl : Nat → Int32) (d : Nat) (y : Int32) (hd : M0 14 7 = nI d) (hd4 : d < 4) :
    ∀ (n : Nat) (cs : List Nat) (z : Int32) (j : Nat) (M : mM) (l5 l6 : Option mV), n + cs.length = 32 → j ≤ cs.length → aOk x dl cs → RpP 29 M x dl 0 0 cs → FrP 29 M0 M → (∀ M', FrP 29 M0 M' → P (some (.inl (nI (aWn x (aDr x dl n z cs) (d % 2) 8)))) M') →
    mRun (mSx g) (f_X7_drawnMade g) P (24, [some (.inr (some 0)), some (.inl y), some (.inr (some 29)), some (.inl z), some (.inl (nI j)), l5, l6], [], M) := by
  intro n
  induction n with
  | zero =>
    intro cs z j M l5 l6 hn hj hok hR hF hP
    have hl : cs.length = 32 := by omega
    have e : aAt (M 36) 2 (M 14 7 &&& nI 1) = nI (aWn x cs (d % 2) 8) := by
      rw [hF 14 (by decide), hd, nI_and1 _ (by omega), won_at (p := 29) hR (by omega), hl]
    refine v_dm_24 g M P _ _ _ _ _ ⟨fun _ => ?_, fun _ => ?_⟩
    · rw [e]
      exact hP M hF
    · refine ⟨(29, (x, dl, 0, 0, cs)), ⟨rfl, rfl, hR, hok⟩, fun r3 M2 h3 => ?_⟩
      obtain ⟨rfl, rfl⟩ := h3
      dsimp only
      rw [aAl_0 hok hl]
      refine ⟨fun w => absurd (by decide) w, fun _ => ?_⟩
      rw [e]
      exact hP _ hF
  | succ n ih =>
    intro cs z j M l5 l6 hn hj hok hR hF hP
    have hl : cs.length < 32 := by omega
    refine v_dm_24 g M P _ _ _ _ _ ⟨fun w => absurd w (nI_ge (by omega) (by omega)), fun _ => ?_⟩
    refine ⟨(29, (x, dl, 0, 0, cs)), ⟨rfl, rfl, hR, hok⟩, fun r3 M2 h3 => ?_⟩
    obtain ⟨rfl, rfl⟩ := h3
    dsimp only
    have hp := al_pos hok hl
    have h32 := bts_32 (aAl x dl cs)
    have hlow := rmv_low (x := aAl x dl cs) (n := ub (fNext z) / 512 % (bts (ub (aAl x dl cs)) 32).length) (Nat.mod_lt _ hp)
    have hch := aCh_in (fNext z) hok hl
    have hlow2 : fLow (rmv (aAl x dl cs) (ub (fNext z) / 512 % (bts (ub (aAl x dl cs)) 32).length)) = nI (aCh x dl (fNext z) cs) := hlow
    have hk := Nat.mod_lt (ub (fNext z) / 512) hp
    rw [aDr] at hP
    rw [pop_len, pcS9]
    clear hlow
    generalize aCh x dl (fNext z) cs = c at hlow2 hch hP
    generalize (bts (ub (aAl x dl cs)) 32).length = L at hp h32 hlow2 hk ⊢
    have hu := ub_lt (fNext z)
    have hne : nI L ≠ 0 := nI_ne0 hp (by omega)
    refine ⟨fun _ => ⟨hne, ?_⟩, fun w => absurd hne w⟩
    rw [pk_rem (by omega) hp (by omega)]
    refine ⟨(ub (fNext z) / 512 % L, aAl x dl cs), ⟨rfl, by omega⟩, fun r6 M5 h6 => ?_⟩
    obtain ⟨rfl, rfl⟩ := h6
    dsimp only
    rw [hlow2]
    refine ⟨(29, (x, dl, 0, 0, cs), c), ⟨rfl, rfl, hR, hok, hl, hch.1, aAl_sub hch.2⟩, fun M8 h8 => ?_⟩
    rw [nI_add]
    exact ih _ _ _ M8 _ _ (by rw [List.length_append, List.length_singleton]; omega) (by rw [List.length_append, List.length_singleton]; omega) (al_ok hok hl hch.1 hch.2) h8.1 (hF.trans h8.2) hP
theorem run_X7_drawnMade : mRunOf 7 t_X7_drawnMade f_X7_drawnMade := fun g as M P hT => by
  obtain ⟨⟨⟨x, dl, cs⟩, y, d⟩, ⟨rfl, h1, h2, h3, h4⟩, hP⟩ := hT
  dsimp only at h1 h2 h3 h4
  have hlen := h2.2.2.1
  refine ⟨Nat.le_of_ble_eq_true rfl, v_dm_0 g M P _ ?_⟩
  refine ⟨(x, dl, 0, 0, cs), ⟨rfl, h1, hlen⟩, fun M2 k2 => ?_⟩
  exact dm_loop g P M x dl d y h3 h4 (32 - cs.length) cs y 0 M2 _ _ (by omega) (by omega) h2 k2.1 k2.2 (fun M' hF => hP _ _ ⟨rfl, hF⟩)
theorem ok_X7_drawnMade : mOK yX7_drawnMade cX7_drawnMade 7 (some .int) 4 t_X7_drawnMade := mOK.of f_X7_drawnMade (by decide) (fun _ => rfl) (fun g => mCodeOK kk_X7_drawnMade) (fun g => mFldL fk_RX7 rfl) (fun g idx v h => by cases h) (fun g idx v h => by cases h) (mCalL (l := l_X7_drawnMade) (List.forall_mem_cons.mpr ⟨mSite.V (idx := 345) ok_X2_become (by decide) (by decide) rv_X2_become wc_X2_become wk_RX7_345 wi_X2_become wl_X2_become wn_RX2 wd_X2_become, List.forall_mem_cons.mpr ⟨mSite.V (idx := 152) ok_X2_allowed (by decide) (by decide) rv_X2_allowed wc_X2_allowed wk_RX7_152 wi_X2_allowed wl_X2_allowed wn_RX2 wd_X2_allowed, List.forall_mem_cons.mpr ⟨mSite.S (idx := 231) ok_J6_bitCount_0f7a4 (by decide) (by decide) wc_J6_bitCount_0f7a4 wk_RX7_231 wt_J6_bitCount_0f7a4 wn_RJ6 wd_J6_bitCount_0f7a4, List.forall_mem_cons.mpr ⟨mSite.S (idx := 372) ok_X7_nextSeed (by decide) (by decide) wc_X7_nextSeed wk_RX7_372 wt_X7_nextSeed wn_RX7 wd_X7_nextSeed, List.forall_mem_cons.mpr ⟨mSite.S (idx := 375) ok_X7_cardByNumber (by decide) (by decide) wc_X7_cardByNumber wk_RX7_375 wt_X7_cardByNumber wn_RX7 wd_X7_cardByNumber, List.forall_mem_cons.mpr ⟨mSite.V (idx := 355) ok_X2_lay (by decide) (by decide) rv_X2_lay wc_X2_lay wk_RX7_355 wi_X2_lay wl_X2_lay wn_RX2 wd_X2_lay, List.forall_mem_cons.mpr ⟨mSite.S (idx := 107) ok_X7_at (by decide) (by decide) wc_X7_at wk_RX7_107 wt_X7_at wn_RX7 wd_X7_at, fun _ h => absurd h List.not_mem_nil⟩⟩⟩⟩⟩⟩⟩) (fun _ => rfl)) run_X7_drawnMade

/-- v divided by the greatest d that divides both a and b -/
def aLt (v a b : Nat) : Nat → Nat
  | 0 => v
  | d + 1 => if d = 0 then v else if a % (d + 1) = 0 ∧ b % (d + 1) = 0 then v / (d + 1) else aLt v a b d
def pre_X7_inLowestTerms (q : Nat × Nat × Nat) (as : List mV) (_ : mM) : Prop := as = [.inl (nI q.1), .inl (nI q.2.1), .inl (nI q.2.2)] ∧ q.1 < 2 ^ 31 ∧ q.2.1 < 2 ^ 31 ∧ q.2.2 < 2 ^ 31
def post_X7_inLowestTerms (q : Nat × Nat × Nat) (_ : List mV) (M : mM) (v : Int32) (M' : mM) : Prop := v = nI (aLt q.1 q.2.1 q.2.2 q.2.2) ∧ M' = M
abbrev t_X7_inLowestTerms : mG → mT := mRi pre_X7_inLowestTerms post_X7_inLowestTerms
theorem mo_X7_inLowestTerms : mMn t_X7_inLowestTerms := mRi_mono
theorem v_il_0 (g : mG) (M : mM) (P : mP) (v a b : Int32)
    (h : mRun (mSx g) (f_X7_inLowestTerms g) P (2, [some (.inl v), some (.inl a), some (.inl b), some (.inl b)], [], M)) :
    mRun (mSx g) (f_X7_inLowestTerms g) P (0, [some (.inl v), some (.inl a), some (.inl b), none], [], M) := mRun.vc (m_X7_inLowestTerms g) [2] 3 h

theorem v_il_2 (g : mG) (M : mM) (P : mP) (v a b d : Int32)
    (h : (d ≤ (nI 1) → P (some (.inl v)) M) ∧ (¬ d ≤ (nI 1) → ¬ d = 0 ∧ ((¬ (a - a / d * d) = 0 → mRun (mSx g) (f_X7_inLowestTerms g) P (2, [some (.inl v), some (.inl a), some (.inl b), some (.inl (d + (-1)))], [], M)) ∧ (¬ (¬ (a - a / d * d) = 0) → ¬ d = 0 ∧ ((¬ (b - b / d * d) = 0 → mRun (mSx g) (f_X7_inLowestTerms g) P (2, [some (.inl v), some (.inl a), some (.inl b), some (.inl (d + (-1)))], [], M)) ∧ (¬ (¬ (b - b / d * d) = 0) → ¬ d = 0 ∧ (P (some (.inl (v / d))) M))))))) :
    mRun (mSx g) (f_X7_inLowestTerms g) P (2, [some (.inl v), some (.inl a), some (.inl b), some (.inl d)], [], M) := mRun.vc (m_X7_inLowestTerms g) [2] 15 h

theorem il_loop (g : mG) (M : mM) (P : mP) (v a b : Nat) (hv : v < 2 ^ 31) (ha : a < 2 ^ 31) (hb : b < 2 ^ 31) : ∀ (d : Nat), d < 2 ^ 31 → P (some (.inl (nI (aLt v a b d)))) M →
    mRun (mSx g) (f_X7_inLowestTerms g) P (2, [some (.inl (nI v)), some (.inl (nI a)), some (.inl (nI b)), some (.inl (nI d))], [], M) := by
  intro d
  induction d with
  | zero =>
    intro _ hP
    exact v_il_2 g M P _ _ _ _ ⟨fun _ => hP, fun w => absurd (nI_le (by decide) (by decide)) w⟩
  | succ d ih =>
    intro hd hP
    rw [aLt] at hP
    by_cases h0 : d = 0
    · rw [if_pos h0] at hP
      exact v_il_2 g M P _ _ _ _ ⟨fun _ => hP, fun w => absurd (nI_le (by omega) (by decide)) w⟩
    · rw [if_neg h0] at hP
      have hne : nI (d + 1) ≠ 0 := nI_ne0 (by omega) hd
      have hs : nI (d + 1) + (-1) = nI d := by rw [nI_s1 (by omega)]; rfl
      refine v_il_2 g M P _ _ _ _ ⟨fun w => absurd w (nI_ge (by omega) hd), fun _ => ⟨hne, ?_⟩⟩
      rw [pk_rem ha (by omega) hd, pk_rem hb (by omega) hd, pk_div hv (by omega) hd, hs]
      have hma := Nat.mod_lt a (show 0 < d + 1 by omega)
      have hmb := Nat.mod_lt b (show 0 < d + 1 by omega)
      refine ⟨fun w => ?_, fun w => ⟨hne, fun w2 => ?_, fun w2 => ⟨hne, ?_⟩⟩⟩
      · rw [if_neg (fun z => w (by rw [z.1]; rfl))] at hP
        exact ih (by omega) hP
      · rw [if_neg (fun z => w2 (by rw [z.2]; rfl))] at hP
        exact ih (by omega) hP
      · have e1 := (nI_eq (b := 0) (by omega) (by decide)).mp (Classical.not_not.mp w)
        have e2 := (nI_eq (b := 0) (by omega) (by decide)).mp (Classical.not_not.mp w2)
        rw [if_pos ⟨e1, e2⟩] at hP
        exact hP
theorem run_X7_inLowestTerms : mRunOf 4 t_X7_inLowestTerms f_X7_inLowestTerms := fun g as M P hT => by
  obtain ⟨⟨v, a, b⟩, ⟨rfl, h1, h2, h3⟩, hP⟩ := hT
  exact ⟨Nat.le_of_ble_eq_true rfl, v_il_0 g M P _ _ _ (il_loop g M P v a b h1 h2 h3 b h3 (hP _ _ ⟨rfl, rfl⟩))⟩
theorem ok_X7_inLowestTerms : mOK yX7_inLowestTerms cX7_inLowestTerms 4 (some .int) 1 t_X7_inLowestTerms := mOK.of f_X7_inLowestTerms (by decide) (fun _ => rfl) (fun g => mCodeOK kk_X7_inLowestTerms) (fun g => mFldL fk_RX7 rfl) (fun g idx v h => by cases h) (fun g idx v h => by cases h) (mCalL (l := l_X7_inLowestTerms) (fun _ h => absurd h List.not_mem_nil) (fun _ => rfl)) run_X7_inLowestTerms

