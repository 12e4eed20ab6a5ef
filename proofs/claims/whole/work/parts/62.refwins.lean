/-! ===== THE REFERENCE: its rows of rows; who wins a trick ===== -/
def out2 (c first n m : Nat) : Prop := ∃ rs, mSH[c]? = some (1, n, rs) ∧ ∀ i, i < n → rs[i]? = some (some (first + i)) ∧ mSH[first + i]? = some (0, m, [])
theorem o_cards : out2 64 65 8 4 := ⟨_, rfl, by decide +kernel⟩
theorem o_named : out2 55 56 2 5 := ⟨_, rfl, by decide +kernel⟩
theorem o_totals : out2 73 74 2 6 := ⟨_, rfl, by decide +kernel⟩
theorem o_image : out2 78 79 4 90 := ⟨_, rfl, by decide +kernel⟩
theorem o_items : out2 85 86 4 40 := ⟨_, rfl, by decide +kernel⟩
/-- a row of rows is read -/
theorem rr_at {g : mG} {c first n m i : Nat} {X : Nat → Prop} (h : out2 c first n m) (hn : n < 2 ^ 31) (hi : i < n) (k : X (first + i)) : ∃ (n2 k3 c4 : Nat) (rs5 : List (Option Nat)), (mSx g)[c]? = some (1, n2, rs5) ∧ nI i = nI k3 ∧ k3 < n2 ∧ n2 < 2 ^ 31 ∧ rs5[k3]? = some (some c4) ∧ X c4 := by
  obtain ⟨rs, h1, h2⟩ := h
  exact ⟨n, i, first + i, rs, mSx_at h1, rfl, hi, hn, (h2 i hi).1, k⟩
/-- .. and its item -/
theorem ri_at {g : mG} {c first n m i j : Nat} {X : Prop} (h : out2 c first n m) (hi : i < n) (hj : j < m) (hm : m < 2 ^ 31) (k : X) : ∃ (n6 : Nat) (rs7 : List (Option Nat)), (mSx g)[first + i]? = some (0, n6, rs7) ∧ vp_in (nI j) n6 ∧ X := by
  obtain ⟨rs, h1, h2⟩ := h
  exact ⟨m, [], mSx_at (h2 i hi).2, vp_in_nI hj hm, k⟩
def sB (b : Bool) (h c : Nat) : Nat := if h = 1 then 2 * (7 - c % 8) else if h = 2 ∧ c % 8 = 3 then 13 else if h = 3 ∧ b = true ∧ c % 8 = 4 then 20 else if h = 3 ∧ b = true ∧ c % 8 = 2 then 18 else 2 * (c % 8)
theorem fStrB_t : ∀ h, h < 4 → ∀ c, c < 32 → fStrB (nI c) (nI (c / 8)) (nI h) = nI (sB true h c) ∧ fStrB (nI c) (-1) (nI h) = nI (sB false h c) := by decide +kernel
theorem fStrB_no {c h : Nat} {t : Int32} (hc : c < 32) (ht : nI (c / 8) ≠ t) : fStrB (nI c) t (nI h) = fStrB (nI c) (-1) (nI h) := by
  have e : nI c / nI 8 = nI (c / 8) := pk_div (by omega) (by decide) (by decide)
  unfold fStrB
  rw [e]
  have hm : ¬ nI (c / 8) = -1 := ne_m1 (by omega)
  have h1 : ∀ q : Prop, ¬ (nI h = nI 3 ∧ nI (c / 8) = t ∧ q) := fun q z => ht z.2.1
  have h2 : ∀ q : Prop, ¬ (nI h = nI 3 ∧ nI (c / 8) = -1 ∧ q) := fun q z => hm z.2.1
  rw [if_neg (h1 _), if_neg (h2 _), if_neg (h1 _), if_neg (h2 _)]
theorem fStrB_N {c h : Nat} (t : Int32) (hc : c < 32) (hh : h < 4) : fStrB (nI c) t (nI h) = nI (sB (decide (nI (c / 8) = t)) h c) := by
  by_cases ht : nI (c / 8) = t
  · subst ht
    rw [(fStrB_t h hh c hc).1]
    simp
  · rw [fStrB_no hc ht, (fStrB_t h hh c hc).2]
    simp [ht]
theorem sB_lt : ∀ h, h < 4 → ∀ r, r < 8 → ∀ q, q < 8 → ∀ tr : Bool, decide (sB tr h r < sB tr h q) = decide (sN tr h r < sN tr h q) := by decide +kernel
theorem sB_le (tr : Bool) (h c : Nat) : sB tr h c ≤ 20 := by
  unfold sB
  have : c % 8 < 8 := Nat.mod_lt _ (by decide)
  repeat' split
  all_goals omega
theorem sB_mod (tr : Bool) (h c : Nat) : sB tr h c = sB tr h (c % 8) := by
  unfold sB
  rw [Nat.mod_mod]
theorem sN_mod (tr : Bool) (h c : Nat) : sN tr h c = sN tr h (c % 8) := by
  unfold sN
  rw [Nat.mod_mod]
theorem sB_sN {tr : Bool} {h a b : Nat} (hh : h < 4) : sB tr h a < sB tr h b ↔ sN tr h a < sN tr h b := by
  have := sB_lt h hh (a % 8) (Nat.mod_lt _ (by decide)) (b % 8) (Nat.mod_lt _ (by decide)) tr
  rw [sB_mod tr h a, sB_mod tr h b, sN_mod tr h a, sN_mod tr h b]
  exact decide_eq_decide.mp this
/-- does b beat a, a being the best so far -/
theorem beats {t : Int32} {h led a b : Nat} (hh : h < 4) (ha : a < 32) (hb : b < 32) (h0 : -1 < aPw t h led a) : aPw t h led a < aPw t h led b ↔ (if a / 8 = b / 8 then fStrB (nI a) t (nI h) < fStrB (nI b) t (nI h) else nI (b / 8) = t) := by
  have s1 := sN_le true h a
  have s2 := sN_le true h b
  have s3 := sN_le false h a
  have s4 := sN_le false h b
  have l1 := sB_le (decide (nI (a / 8) = t)) h a
  have l2 := sB_le (decide (nI (b / 8) = t)) h b
  by_cases e : a / 8 = b / 8
  · rw [if_pos e, fStrB_N t ha hh, fStrB_N t hb hh, nI_ltI (by omega) (by omega), e, sB_sN hh]
    unfold aPw at h0 ⊢
    rw [e] at h0 ⊢
    by_cases ht : nI (b / 8) = t
    · rw [if_pos ht, if_pos ht, decide_eq_true ht]
      omega
    · rw [if_neg ht] at h0
      rw [if_neg ht, if_neg ht, decide_eq_false ht]
      by_cases hl : b / 8 = led
      · rw [if_pos hl, if_pos hl]
        omega
      · rw [if_neg hl] at h0
        omega
  · rw [if_neg e]
    unfold aPw at h0 ⊢
    by_cases ht : nI (b / 8) = t
    · have ha' : ¬ nI (a / 8) = t := fun z => e ((nI_eq (by omega) (by omega)).mp (z.trans ht.symm))
      rw [if_neg ha'] at h0
      rw [if_neg ha', if_pos ht]
      refine ⟨fun _ => ht, fun _ => ?_⟩
      split <;> omega
    · rw [if_neg ht]
      refine ⟨fun z => ?_, fun z => absurd z ht⟩
      exfalso
      by_cases ha' : nI (a / 8) = t
      · rw [if_pos ha'] at z
        split at z <;> omega
      · rw [if_neg ha'] at h0 z
        by_cases hla : a / 8 = led
        · rw [if_neg (fun y : b / 8 = led => e (hla.trans y.symm)), if_pos hla] at z
          omega
        · rw [if_neg hla] at h0
          omega
def FrM (M M' : mM) : Prop := ∀ c, c < 50 → M' c = M c
theorem FrM.refl {M : mM} : FrM M M := fun _ _ => rfl
theorem FrM.trans {M M1 M2 : mM} (h : FrM M M1) (k : FrM M1 M2) : FrM M M2 := fun c hc => (k c hc).trans (h c hc)
def k_X8_trumpNow : List (Nat × mI) := [(0, .aload_n 0, 1, 0, 0, []),
  (1, .getfield 82, 3, 0, 0, []),
  (4, .iconst (-1), 1, 0, -1, []),
  (5, .if_icmp .ne 7, 3, 12, 0, []),
  (8, .iconst 4, 1, 0, nI 4, []),
  (9, .goto 7, 3, 16, 0, []),
  (12, .aload_n 0, 1, 0, 0, []),
  (13, .getfield 82, 3, 0, 0, []),
  (16, .ireturn, 1, 0, 0, [])]
theorem kk_X8_trumpNow : (k_X8_trumpNow.all fun e => mChk cX8_trumpNow e.1 e.2) = true := by decide +kernel
def l_X8_trumpNow : List (Nat × Nat × (mG → mT)) := []
def f_X8_trumpNow (g : mG) : mF := (mLk k_X8_trumpNow, mLk fl_RX8, mLk (l_X8_trumpNow.map fun e => (e.1, e.2.1, e.2.2 g)), mLk ([] : List (Nat × mV)), mLk ([] : List (Nat × mV)), some .int)
theorem m_X8_trumpNow (g : mG) : mMono (f_X8_trumpNow g) := mMonoL (g := g) (l := l_X8_trumpNow) (fun _ h => absurd h List.not_mem_nil) rfl
def t_X8_trumpNow : mG → mT := mIV pl_X8 f_X8_trumpNow 1 10
theorem mo_X8_trumpNow : mMn t_X8_trumpNow := mIV_mono m_X8_trumpNow
theorem rv_X8_trumpNow : mHasR yX8_trumpNow 0 t_X8_trumpNow := mIV_recv is_X8
theorem ok_X8_trumpNow : mOK yX8_trumpNow cX8_trumpNow 1 (some .int) 1 t_X8_trumpNow := mOK.of f_X8_trumpNow (by decide) (fun _ => rfl) (fun g => mCodeOK kk_X8_trumpNow) (fun g => mFldL fk_RX8 rfl) (fun g idx v h => by cases h) (fun g idx v h => by cases h) (mCalL (l := l_X8_trumpNow) (fun _ h => absurd h List.not_mem_nil) (fun _ => rfl)) (mIV_run m_X8_trumpNow)

def k_X8_isLate : List (Nat × mI) := [(0, .aload_n 0, 1, 0, 0, []),
  (1, .getfield 100, 3, 0, 0, []),
  (4, .iconst 2, 1, 0, nI 2, []),
  (5, .if_icmp .ne 18, 3, 23, 0, []),
  (8, .bipush 8, 2, 0, nI 8, []),
  (10, .aload_n 0, 1, 0, 0, []),
  (11, .getfield 97, 3, 0, 0, []),
  (14, .isub, 1, 0, 0, []),
  (15, .iconst 3, 1, 0, nI 3, []),
  (16, .if_icmp .gt 7, 3, 23, 0, []),
  (19, .iconst 1, 1, 0, nI 1, []),
  (20, .goto 4, 3, 24, 0, []),
  (23, .iconst 0, 1, 0, nI 0, []),
  (24, .ireturn, 1, 0, 0, [])]
theorem kk_X8_isLate : (k_X8_isLate.all fun e => mChk cX8_isLate e.1 e.2) = true := by decide +kernel
def l_X8_isLate : List (Nat × Nat × (mG → mT)) := []
def f_X8_isLate (g : mG) : mF := (mLk k_X8_isLate, mLk fl_RX8, mLk (l_X8_isLate.map fun e => (e.1, e.2.1, e.2.2 g)), mLk ([] : List (Nat × mV)), mLk ([] : List (Nat × mV)), some .boolean)
theorem m_X8_isLate (g : mG) : mMono (f_X8_isLate g) := mMonoL (g := g) (l := l_X8_isLate) (fun _ h => absurd h List.not_mem_nil) rfl
def t_X8_isLate : mG → mT := mIV pl_X8 f_X8_isLate 1 15
theorem mo_X8_isLate : mMn t_X8_isLate := mIV_mono m_X8_isLate
theorem rv_X8_isLate : mHasR yX8_isLate 0 t_X8_isLate := mIV_recv is_X8
theorem ok_X8_isLate : mOK yX8_isLate cX8_isLate 1 (some .boolean) 1 t_X8_isLate := mOK.of f_X8_isLate (by decide) (fun _ => rfl) (fun g => mCodeOK kk_X8_isLate) (fun g => mFldL fk_RX8 rfl) (fun g idx v h => by cases h) (fun g idx v h => by cases h) (mCalL (l := l_X8_isLate) (fun _ h => absurd h List.not_mem_nil) (fun _ => rfl)) (mIV_run m_X8_isLate)

def k_X8_forTurn : List (Nat × mI) := [(0, .aload_n 0, 1, 0, 0, []),
  (1, .getfield 103, 3, 0, 0, []),
  (4, .invokestatic 151, 3, 0, 0, []),
  (7, .ifCond .ne 7, 3, 14, 0, []),
  (10, .iload_n 1, 1, 1, 0, []),
  (11, .goto 12, 3, 23, 0, []),
  (14, .bipush 8, 2, 0, nI 8, []),
  (16, .aload_n 0, 1, 0, 0, []),
  (17, .getfield 97, 3, 0, 0, []),
  (20, .isub, 1, 0, 0, []),
  (21, .iload_n 1, 1, 1, 0, []),
  (22, .isub, 1, 0, 0, []),
  (23, .ireturn, 1, 0, 0, [])]
theorem kk_X8_forTurn : (k_X8_forTurn.all fun e => mChk cX8_forTurn e.1 e.2) = true := by decide +kernel
def l_X8_forTurn : List (Nat × Nat × (mG → mT)) := [(3 * 151 + 1, 1, t_X8_side)]
def f_X8_forTurn (g : mG) : mF := (mLk k_X8_forTurn, mLk fl_RX8, mLk (l_X8_forTurn.map fun e => (e.1, e.2.1, e.2.2 g)), mLk ([] : List (Nat × mV)), mLk ([] : List (Nat × mV)), some .int)
theorem m_X8_forTurn (g : mG) : mMono (f_X8_forTurn g) := mMonoL (g := g) (l := l_X8_forTurn) (List.forall_mem_cons.mpr ⟨mo_X8_side, fun _ h => absurd h List.not_mem_nil⟩) rfl
def t_X8_forTurn : mG → mT := mIV pl_X8 f_X8_forTurn 2 14
theorem mo_X8_forTurn : mMn t_X8_forTurn := mIV_mono m_X8_forTurn
theorem rv_X8_forTurn : mHasR yX8_forTurn 1 t_X8_forTurn := mIV_recv is_X8
theorem ok_X8_forTurn : mOK yX8_forTurn cX8_forTurn 2 (some .int) 2 t_X8_forTurn := mOK.of f_X8_forTurn (by decide) (fun _ => rfl) (fun g => mCodeOK kk_X8_forTurn) (fun g => mFldL fk_RX8 rfl) (fun g idx v h => by cases h) (fun g idx v h => by cases h) (mCalL (l := l_X8_forTurn) (List.forall_mem_cons.mpr ⟨mSite.S (idx := 151) ok_X8_side (by decide) (by decide) wc_X8_side wk_RX8_151 wt_X8_side wn_RX8 wd_X8_side, fun _ h => absurd h List.not_mem_nil⟩) (fun _ => rfl)) (mIV_run m_X8_forTurn)

def k_X8_leads : List (Nat × mI) := [(0, .aload_n 0, 1, 0, 0, []),
  (1, .iload_n 1, 1, 1, 0, []),
  (2, .putfield 103, 3, 0, 0, []),
  (5, .aload_n 0, 1, 0, 0, []),
  (6, .getfield 33, 3, 0, 0, []),
  (9, .aload_n 0, 1, 0, 0, []),
  (10, .getfield 97, 3, 0, 0, []),
  (13, .iload_n 1, 1, 1, 0, []),
  (14, .iastore, 1, 0, 0, []),
  (15, .return_, 1, 0, 0, [])]
theorem kk_X8_leads : (k_X8_leads.all fun e => mChk cX8_leads e.1 e.2) = true := by decide +kernel
def l_X8_leads : List (Nat × Nat × (mG → mT)) := []
def f_X8_leads (g : mG) : mF := (mLk k_X8_leads, mLk fl_RX8, mLk (l_X8_leads.map fun e => (e.1, e.2.1, e.2.2 g)), mLk ([] : List (Nat × mV)), mLk ([] : List (Nat × mV)), none)
theorem m_X8_leads (g : mG) : mMono (f_X8_leads g) := mMonoL (g := g) (l := l_X8_leads) (fun _ h => absurd h List.not_mem_nil) rfl
def t_X8_leads : mG → mT := mIV pl_X8 f_X8_leads 2 11
theorem mo_X8_leads : mMn t_X8_leads := mIV_mono m_X8_leads
theorem rv_X8_leads : mHasR yX8_leads 1 t_X8_leads := mIV_recv is_X8
theorem ok_X8_leads : mOK yX8_leads cX8_leads 2 (none) 1 t_X8_leads := mOK.of f_X8_leads (by decide) (fun _ => rfl) (fun g => mCodeOK kk_X8_leads) (fun g => mFldL fk_RX8 rfl) (fun g idx v h => by cases h) (fun g idx v h => by cases h) (mCalL (l := l_X8_leads) (fun _ h => absurd h List.not_mem_nil) (fun _ => rfl)) (mIV_run m_X8_leads)

def pre_X8_wonBy (q : Nat × Int32 × Nat × List Nat × Nat) (as : List mV) (M : mM) : Prop := as = [.inr (some 50), .inl (nI q.1), .inl q.2.1, .inl (nI q.2.2.1)] ∧ q.1 < 8 ∧ q.2.2.1 < 4 ∧ q.2.2.2.2 < 4 ∧ (∀ j, j < 4 → M (65 + q.1) j = nI (aC q.2.2.2.1 (4 * q.1 + j)) ∧ aC q.2.2.2.1 (4 * q.1 + j) < 32) ∧ M 60 q.1 = nI q.2.2.2.2
def post_X8_wonBy (q : Nat × Int32 × Nat × List Nat × Nat) (_ : List mV) (M : mM) (v : Int32) (M' : mM) : Prop := v = nI ((q.2.2.2.2 + aBi q.2.1 q.2.2.1 q.2.2.2.1 q.1) % 4) ∧ M' = M
abbrev t_X8_wonBy : mG → mT := mRi pre_X8_wonBy post_X8_wonBy
theorem mo_X8_wonBy : mMn t_X8_wonBy := mRi_mono
theorem rv_X8_wonBy : mHasR yX8_wonBy 3 t_X8_wonBy := by
  intro g as M P hT hl
  obtain ⟨q, ⟨h2, -⟩, -⟩ := hT
  exact ⟨_, _, h2, is_X8 g _ rfl⟩
def k_X8_wonBy : List (Nat × mI) := [(0, .iconst 0, 1, 0, nI 0, []),
  (1, .istore 4, 2, 4, 0, []),
  (3, .iconst 1, 1, 0, nI 1, []),
  (4, .istore 5, 2, 5, 0, []),
  (6, .iload 5, 2, 5, 0, []),
  (8, .iconst 4, 1, 0, nI 4, []),
  (9, .if_icmp .ge 89, 3, 98, 0, []),
  (12, .aload_n 0, 1, 0, 0, []),
  (13, .getfield 45, 3, 0, 0, []),
  (16, .iload_n 1, 1, 1, 0, []),
  (17, .aaload, 1, 1, 0, []),
  (18, .iload 4, 2, 4, 0, []),
  (20, .iaload, 1, 1, 0, []),
  (21, .istore 6, 2, 6, 0, []),
  (23, .aload_n 0, 1, 0, 0, []),
  (24, .getfield 45, 3, 0, 0, []),
  (27, .iload_n 1, 1, 1, 0, []),
  (28, .aaload, 1, 1, 0, []),
  (29, .iload 5, 2, 5, 0, []),
  (31, .iaload, 1, 1, 0, []),
  (32, .istore 7, 2, 7, 0, []),
  (34, .iload 6, 2, 6, 0, []),
  (36, .bipush 8, 2, 0, nI 8, []),
  (38, .idiv, 1, 0, 0, []),
  (39, .iload 7, 2, 7, 0, []),
  (41, .bipush 8, 2, 0, nI 8, []),
  (43, .idiv, 1, 0, 0, []),
  (44, .if_icmp .eq 7, 3, 51, 0, []),
  (47, .iconst 1, 1, 0, nI 1, []),
  (48, .goto 4, 3, 52, 0, []),
  (51, .iconst 0, 1, 0, nI 0, []),
  (52, .istore 8, 2, 8, 0, []),
  (54, .iload 8, 2, 8, 0, []),
  (56, .ifCond .eq 15, 3, 71, 0, []),
  (59, .iload 7, 2, 7, 0, []),
  (61, .bipush 8, 2, 0, nI 8, []),
  (63, .idiv, 1, 0, 0, []),
  (64, .iload_n 2, 1, 2, 0, []),
  (65, .if_icmp .ne 27, 3, 92, 0, []),
  (68, .goto 20, 3, 88, 0, []),
  (71, .iload 7, 2, 7, 0, []),
  (73, .iload_n 2, 1, 2, 0, []),
  (74, .iload_n 3, 1, 3, 0, []),
  (75, .invokestatic 122, 3, 0, 0, []),
  (78, .iload 6, 2, 6, 0, []),
  (80, .iload_n 2, 1, 2, 0, []),
  (81, .iload_n 3, 1, 3, 0, []),
  (82, .invokestatic 122, 3, 0, 0, []),
  (85, .if_icmp .le 7, 3, 92, 0, []),
  (88, .iload 5, 2, 5, 0, []),
  (90, .istore 4, 2, 4, 0, []),
  (92, .iinc 5 1, 3, 5, nI 1, []),
  (95, .goto (-89), 3, 6, 0, []),
  (98, .aload_n 0, 1, 0, 0, []),
  (99, .getfield 33, 3, 0, 0, []),
  (102, .iload_n 1, 1, 1, 0, []),
  (103, .iaload, 1, 0, 0, []),
  (104, .iload 4, 2, 4, 0, []),
  (106, .iadd, 1, 0, 0, []),
  (107, .iconst 4, 1, 0, nI 4, []),
  (108, .irem, 1, 0, 0, []),
  (109, .ireturn, 1, 0, 0, [])]
theorem kk_X8_wonBy : (k_X8_wonBy.all fun e => mChk cX8_wonBy e.1 e.2) = true := by decide +kernel
def l_X8_wonBy : List (Nat × Nat × (mG → mT)) := [(3 * 122 + 1, 3, t_X8_strengthBy)]
def f_X8_wonBy (g : mG) : mF := (mLk k_X8_wonBy, mLk fl_RX8, mLk (l_X8_wonBy.map fun e => (e.1, e.2.1, e.2.2 g)), mLk ([] : List (Nat × mV)), mLk ([] : List (Nat × mV)), some .int)
theorem m_X8_wonBy (g : mG) : mMono (f_X8_wonBy g) := mMonoL (g := g) (l := l_X8_wonBy) (List.forall_mem_cons.mpr ⟨mo_X8_strengthBy, fun _ h => absurd h List.not_mem_nil⟩) rfl

theorem v_wb_0 (g : mG) (M : mM) (P : mP) (i t h : Int32)
    (hVC : mRun (mSx g) (f_X8_wonBy g) P (6, [some (.inr (some 50)), some (.inl i), some (.inl t), some (.inl h), some (.inl (nI 0)), some (.inl (nI 1)), none, none, none], [], M)) :
    mRun (mSx g) (f_X8_wonBy g) P (0, [some (.inr (some 50)), some (.inl i), some (.inl t), some (.inl h), none, none, none, none, none], [], M) := mRun.vc (m_X8_wonBy g) [6] 5 hVC

theorem v_wb_6 (g : mG) (M : mM) (P : mP) (i t h b k : Int32) (l6 l7 l8 : Option mV)
    (hVC : ((nI 4) ≤ k → vp_in i 8 ∧ (¬ (nI 4) = 0 ∧ (P (some (.inl (((M 60 i.toNatClampNeg) + b) - ((M 60 i.toNatClampNeg) + b) / (nI 4) * (nI 4)))) M))) ∧ (¬ ((nI 4) ≤ k) → ∃ (n2 k3 c4 : Nat) (rs5 : List (Option Nat)), (mSx g)[64]? = some (1, n2, rs5) ∧ i = nI k3 ∧ k3 < n2 ∧ n2 < 2 ^ 31 ∧ rs5[k3]? = some (some c4) ∧ (∃ (n6 : Nat) (rs7 : List (Option Nat)), (mSx g)[c4]? = some (0, n6, rs7) ∧ vp_in b n6 ∧ (∃ (n8 k9 c10 : Nat) (rs11 : List (Option Nat)), (mSx g)[64]? = some (1, n8, rs11) ∧ i = nI k9 ∧ k9 < n8 ∧ n8 < 2 ^ 31 ∧ rs11[k9]? = some (some c10) ∧ (∃ (n12 : Nat) (rs13 : List (Option Nat)), (mSx g)[c10]? = some (0, n12, rs13) ∧ vp_in k n12 ∧ (¬ (nI 8) = 0 ∧ (¬ (nI 8) = 0 ∧ ((((M c4 b.toNatClampNeg) / (nI 8)) = ((M c10 k.toNatClampNeg) / (nI 8)) → mRun (mSx g) (f_X8_wonBy g) P (54, [some (.inr (some 50)), some (.inl i), some (.inl t), some (.inl h), some (.inl b), some (.inl k), some (.inl (M c4 b.toNatClampNeg)), some (.inl (M c10 k.toNatClampNeg)), some (.inl (nI 0))], [], M)) ∧ (¬ (((M c4 b.toNatClampNeg) / (nI 8)) = ((M c10 k.toNatClampNeg) / (nI 8))) → mRun (mSx g) (f_X8_wonBy g) P (54, [some (.inr (some 50)), some (.inl i), some (.inl t), some (.inl h), some (.inl b), some (.inl k), some (.inl (M c4 b.toNatClampNeg)), some (.inl (M c10 k.toNatClampNeg)), some (.inl (nI 1))], [], M)))))))))) :
    mRun (mSx g) (f_X8_wonBy g) P (6, [some (.inr (some 50)), some (.inl i), some (.inl t), some (.inl h), some (.inl b), some (.inl k), l6, l7, l8], [], M) := mRun.vc (m_X8_wonBy g) [6, 54] 28 hVC

theorem v_wb_54 (g : mG) (M : mM) (P : mP) (i t h b k x y e : Int32)
    (hVC : (e = 0 → ((fStrB y t h) ≤ (fStrB x t h) → mRun (mSx g) (f_X8_wonBy g) P (6, [some (.inr (some 50)), some (.inl i), some (.inl t), some (.inl h), some (.inl b), some (.inl (k + (nI 1))), some (.inl x), some (.inl y), some (.inl e)], [], M)) ∧ (¬ ((fStrB y t h) ≤ (fStrB x t h)) → mRun (mSx g) (f_X8_wonBy g) P (6, [some (.inr (some 50)), some (.inl i), some (.inl t), some (.inl h), some (.inl k), some (.inl (k + (nI 1))), some (.inl x), some (.inl y), some (.inl e)], [], M))) ∧ (¬ (e = 0) → ¬ (nI 8) = 0 ∧ ((¬ (y / (nI 8)) = t → mRun (mSx g) (f_X8_wonBy g) P (6, [some (.inr (some 50)), some (.inl i), some (.inl t), some (.inl h), some (.inl b), some (.inl (k + (nI 1))), some (.inl x), some (.inl y), some (.inl e)], [], M)) ∧ (¬ (¬ (y / (nI 8)) = t) → mRun (mSx g) (f_X8_wonBy g) P (6, [some (.inr (some 50)), some (.inl i), some (.inl t), some (.inl h), some (.inl k), some (.inl (k + (nI 1))), some (.inl x), some (.inl y), some (.inl e)], [], M))))) :
    mRun (mSx g) (f_X8_wonBy g) P (54, [some (.inr (some 50)), some (.inl i), some (.inl t), some (.inl h), some (.inl b), some (.inl k), some (.inl x), some (.inl y), some (.inl e)], [], M) := mRun.vc (m_X8_wonBy g) [6] 16 hVC

theorem wb_run (g : mG) (M : mM) (P : mP) {i h lr : Nat} {t : Int32} {cs : List Nat} (hi : i < 8) (hh : h < 4) (hlr : lr < 4) (e1 : ∀ j, j < 4 → M (65 + i) j = nI (aC cs (4 * i + j)) ∧ aC cs (4 * i + j) < 32) (e2 : M 60 i = nI lr) (hP : P (some (.inl (nI ((lr + aBi t h cs i) % 4)))) M) :
    mRun (mSx g) (f_X8_wonBy g) P (0, [some (.inr (some 50)), some (.inl (nI i)), some (.inl t), some (.inl (nI h)), none, none, none, none, none], [], M) := by
  have ci : (nI i).toNatClampNeg = i := nI_clamp (by omega)
  have lt : ∀ j, j < 4 → aC cs (4 * i + j) < 32 := fun j hj => (e1 j hj).2
  have f0 : -1 < aPw t h (aC cs (4 * i) / 8) (aC cs (4 * i + 0)) := aPw_0
  -- one card more
  have step : ∀ (b k : Nat) (l6 l7 l8 : Option mV), b < 4 → k < 4 → -1 < aPw t h (aC cs (4 * i) / 8) (aC cs (4 * i + b)) →
      (∀ b' l6 l7 l8, b' = (if aPw t h (aC cs (4 * i) / 8) (aC cs (4 * i + b)) < aPw t h (aC cs (4 * i) / 8) (aC cs (4 * i + k)) then k else b) → mRun (mSx g) (f_X8_wonBy g) P (6, [some (.inr (some 50)), some (.inl (nI i)), some (.inl t), some (.inl (nI h)), some (.inl (nI b')), some (.inl (nI (k + 1))), l6, l7, l8], [], M)) →
      mRun (mSx g) (f_X8_wonBy g) P (6, [some (.inr (some 50)), some (.inl (nI i)), some (.inl t), some (.inl (nI h)), some (.inl (nI b)), some (.inl (nI k)), l6, l7, l8], [], M) := by
    intro b k l6 l7 l8 hb hk hpw next
    have hbt := beats hh (lt b hb) (lt k hk) hpw
    have cb : (nI b).toNatClampNeg = b := nI_clamp (by omega)
    have ck : (nI k).toNatClampNeg = k := nI_clamp (by omega)
    have lb := lt b hb
    have lk := lt k hk
    have tail : ∀ e : Int32, e = mb (¬ aC cs (4 * i + b) / 8 = aC cs (4 * i + k) / 8) → mRun (mSx g) (f_X8_wonBy g) P (54, [some (.inr (some 50)), some (.inl (nI i)), some (.inl t), some (.inl (nI h)), some (.inl (nI b)), some (.inl (nI k)), some (.inl (nI (aC cs (4 * i + b)))), some (.inl (nI (aC cs (4 * i + k)))), some (.inl e)], [], M) := fun e he => by
      refine v_wb_54 g M P _ _ _ _ _ _ _ _ ?_
      rw [he, nI_add, nI_div8 (by omega), mb_0]
      refine ⟨fun w => ?_, fun w => ⟨n8, ?_⟩⟩
      · rw [if_pos (Classical.not_not.mp w)] at hbt
        refine ⟨fun y => next b _ _ _ (if_neg (fun z => absurd (hbt.mp z) (Int32.not_lt.mpr y))).symm, fun y => next k _ _ _ (if_pos (hbt.mpr (Int32.not_le.mp y))).symm⟩
      · have w' : ¬ aC cs (4 * i + b) / 8 = aC cs (4 * i + k) / 8 := fun z => w (fun y => y z)
        rw [if_neg w'] at hbt
        refine ⟨fun y => next b _ _ _ (if_neg (fun z => y (hbt.mp z))).symm, fun y => next k _ _ _ (if_pos (hbt.mpr (Classical.not_not.mp y))).symm⟩
    refine v_wb_6 g M P _ _ _ _ _ _ _ _ ⟨fun w => absurd w (nI_ge hk (by decide)), fun _ => ?_⟩
    refine rr_at (i := i) o_cards (by decide) hi (ri_at o_cards hi hb (by decide) ?_)
    refine rr_at (i := i) o_cards (by decide) hi (ri_at o_cards hi hk (by decide) ⟨n8, n8, ?_⟩)
    rw [cb, ck, (e1 b hb).1, (e1 k hk).1, nI_div8 (by omega), nI_div8 (by omega), nI_eq (by omega) (by omega)]
    exact ⟨fun w => tail _ (mb_f (fun z => z w)).symm, fun w => tail _ (mb_t w).symm⟩
  have keep : ∀ (b k : Nat), -1 < aPw t h (aC cs (4 * i) / 8) (aC cs (4 * i + b)) → -1 < aPw t h (aC cs (4 * i) / 8) (aC cs (4 * i + (if aPw t h (aC cs (4 * i) / 8) (aC cs (4 * i + b)) < aPw t h (aC cs (4 * i) / 8) (aC cs (4 * i + k)) then k else b))) := fun b k hb => by
    split
    · rename_i w
      omega
    · exact hb
  refine v_wb_0 g M P _ _ _ ?_
  refine step 0 1 _ _ _ (by decide) (by decide) f0 (fun b1 _ _ _ h1 => ?_)
  have k1 := keep 0 1 f0
  rw [← h1] at k1
  have l1 : b1 < 4 := by rw [h1]; split <;> decide
  refine step b1 2 _ _ _ l1 (by decide) k1 (fun b2 _ _ _ h2 => ?_)
  have k2 := keep b1 2 k1
  rw [← h2] at k2
  have l2 : b2 < 4 := by rw [h2]; split <;> omega
  refine step b2 3 _ _ _ l2 (by decide) k2 (fun b3 _ _ _ h3 => ?_)
  have l3 : b3 < 4 := by rw [h3]; split <;> omega
  have hB : aBi t h cs i = b3 := aB4_of (f := fun k => aPw t h (aC cs (4 * i) / 8) (aC cs (4 * i + k))) h1 h2 h3
  rw [hB] at hP
  refine v_wb_6 g M P _ _ _ _ _ _ _ _ ⟨fun _ => ⟨vp_in_nI hi (by decide), n4, ?_⟩, fun w => absurd (nI_le (Nat.le_refl 4) (by decide)) w⟩
  rw [ci, e2, nI_add, nI_mod4 (by omega)]
  exact hP
theorem run_X8_wonBy : mRunOf 9 t_X8_wonBy f_X8_wonBy := fun g as M P hT => by
  obtain ⟨⟨i, t, h, cs, lr⟩, ⟨rfl, h2, h3, h4, h5, h6⟩, hP⟩ := hT
  exact ⟨Nat.le_of_ble_eq_true rfl, wb_run g M P h2 h3 h4 h5 h6 (hP _ _ ⟨rfl, rfl⟩)⟩
theorem ok_X8_wonBy : mOK yX8_wonBy cX8_wonBy 9 (some .int) 2 t_X8_wonBy := mOK.of f_X8_wonBy (by decide) (fun _ => rfl) (fun g => mCodeOK kk_X8_wonBy) (fun g => mFldL fk_RX8 rfl) (fun g idx v h => by cases h) (fun g idx v h => by cases h) (mCalL (l := l_X8_wonBy) (List.forall_mem_cons.mpr ⟨mSite.S (idx := 122) ok_X8_strengthBy (by decide) (by decide) wc_X8_strengthBy wk_RX8_122 wt_X8_strengthBy wn_RX8 wd_X8_strengthBy, fun _ h => absurd h List.not_mem_nil⟩) (fun _ => rfl)) run_X8_wonBy

