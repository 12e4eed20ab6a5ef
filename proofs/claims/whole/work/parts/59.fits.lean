/-! ===== CLASS TrickHouse: act, feed ===== -/
def k_X0_add : List (Nat × mI) := [(0, .aload_n 0, 1, 0, 0, []),
  (1, .getfield 24, 3, 0, 0, []),
  (4, .bipush 90, 2, 0, nI 90, []),
  (6, .if_icmp .lt 4, 3, 10, 0, []),
  (9, .return_, 1, 0, 0, []),
  (10, .aload_n 0, 1, 0, 0, []),
  (11, .getfield 9, 3, 0, 0, []),
  (14, .aload_n 0, 1, 0, 0, []),
  (15, .getfield 24, 3, 0, 0, []),
  (18, .iload_n 1, 1, 1, 0, []),
  (19, .invokestatic 28, 3, 0, 0, []),
  (22, .aload_n 0, 1, 0, 0, []),
  (23, .getfield 15, 3, 0, 0, []),
  (26, .aload_n 0, 1, 0, 0, []),
  (27, .getfield 24, 3, 0, 0, []),
  (30, .iload_n 2, 1, 2, 0, []),
  (31, .invokestatic 28, 3, 0, 0, []),
  (34, .aload_n 0, 1, 0, 0, []),
  (35, .getfield 18, 3, 0, 0, []),
  (38, .aload_n 0, 1, 0, 0, []),
  (39, .getfield 24, 3, 0, 0, []),
  (42, .iload_n 3, 1, 3, 0, []),
  (43, .invokestatic 28, 3, 0, 0, []),
  (46, .aload_n 0, 1, 0, 0, []),
  (47, .getfield 21, 3, 0, 0, []),
  (50, .aload_n 0, 1, 0, 0, []),
  (51, .getfield 24, 3, 0, 0, []),
  (54, .iload 4, 2, 4, 0, []),
  (56, .invokestatic 28, 3, 0, 0, []),
  (59, .aload_n 0, 1, 0, 0, []),
  (60, .dup, 1, 0, 0, []),
  (61, .getfield 24, 3, 0, 0, []),
  (64, .iconst 1, 1, 0, nI 1, []),
  (65, .iadd, 1, 0, 0, []),
  (66, .putfield 24, 3, 0, 0, []),
  (69, .return_, 1, 0, 0, [])]
theorem kk_X0_add : (k_X0_add.all fun e => mChk cX0_add e.1 e.2) = true := by decide +kernel
def l_X0_add : List (Nat × Nat × (mG → mT)) := [(3 * 28 + 1, 3, t_X7_set)]
def f_X0_add (g : mG) : mF := (mLk k_X0_add, mLk fl_RX0, mLk (l_X0_add.map fun e => (e.1, e.2.1, e.2.2 g)), mLk ([] : List (Nat × mV)), mLk ([] : List (Nat × mV)), none)
theorem m_X0_add (g : mG) : mMono (f_X0_add g) := mMonoL (g := g) (l := l_X0_add) (List.forall_mem_cons.mpr ⟨mo_X7_set, fun _ h => absurd h List.not_mem_nil⟩) rfl
def t_X0_add : mG → mT := mIV pl_X0 f_X0_add 5 37
theorem mo_X0_add : mMn t_X0_add := mIV_mono m_X0_add
theorem rv_X0_add : mHasR yX0_add 4 t_X0_add := mIV_recv is_X0
theorem ok_X0_add : mOK yX0_add cX0_add 5 (none) 2 t_X0_add := mOK.of f_X0_add (by decide) (fun _ => rfl) (fun g => mCodeOK kk_X0_add) (fun g => mFldL fk_RX0 rfl) (fun g idx v h => by cases h) (fun g idx v h => by cases h) (mCalL (l := l_X0_add) (List.forall_mem_cons.mpr ⟨mSite.SN (idx := 28) ok_X7_set (by decide) (by decide) wc_X7_set wm_RX0_28 wt_X7_set wn_RX7 wd_X7_set, fun _ h => absurd h List.not_mem_nil⟩) (fun _ => rfl)) (mIV_run m_X0_add)

def k_X6_add : List (Nat × mI) := [(0, .aload_n 0, 1, 0, 0, []),
  (1, .getfield 9, 3, 0, 0, []),
  (4, .aload_n 0, 1, 0, 0, []),
  (5, .getfield 15, 3, 0, 0, []),
  (8, .iload_n 1, 1, 1, 0, []),
  (9, .invokestatic 19, 3, 0, 0, []),
  (12, .aload_n 0, 1, 0, 0, []),
  (13, .dup, 1, 0, 0, []),
  (14, .getfield 15, 3, 0, 0, []),
  (17, .iconst 1, 1, 0, nI 1, []),
  (18, .iadd, 1, 0, 0, []),
  (19, .putfield 15, 3, 0, 0, []),
  (22, .return_, 1, 0, 0, [])]
theorem kk_X6_add : (k_X6_add.all fun e => mChk cX6_add e.1 e.2) = true := by decide +kernel
def l_X6_add : List (Nat × Nat × (mG → mT)) := [(3 * 19 + 1, 3, t_X7_set)]
def f_X6_add (g : mG) : mF := (mLk k_X6_add, mLk fl_RX6, mLk (l_X6_add.map fun e => (e.1, e.2.1, e.2.2 g)), mLk ([] : List (Nat × mV)), mLk ([] : List (Nat × mV)), none)
theorem m_X6_add (g : mG) : mMono (f_X6_add g) := mMonoL (g := g) (l := l_X6_add) (List.forall_mem_cons.mpr ⟨mo_X7_set, fun _ h => absurd h List.not_mem_nil⟩) rfl
def t_X6_add : mG → mT := mIV pl_X6 f_X6_add 2 14
theorem mo_X6_add : mMn t_X6_add := mIV_mono m_X6_add
theorem rv_X6_add : mHasR yX6_add 1 t_X6_add := mIV_recv is_X6
theorem ok_X6_add : mOK yX6_add cX6_add 2 (none) 2 t_X6_add := mOK.of f_X6_add (by decide) (fun _ => rfl) (fun g => mCodeOK kk_X6_add) (fun g => mFldL fk_RX6 rfl) (fun g idx v h => by cases h) (fun g idx v h => by cases h) (mCalL (l := l_X6_add) (List.forall_mem_cons.mpr ⟨mSite.SN (idx := 19) ok_X7_set (by decide) (by decide) wc_X7_set wm_RX6_19 wt_X7_set wn_RX7 wd_X7_set, fun _ h => absurd h List.not_mem_nil⟩) (fun _ => rfl)) (mIV_run m_X6_add)

/-- what an act that was read is like -/
def okRd (w : Nat) (n s : Int32) : Prop := (w = 0 ∨ w = 6 ∨ w = 7 ∨ w = 8 → (∃ v, v < 1000000 ∧ n = nI v) ∧ s = -1) ∧ (w = 1 → (∃ v, v < 1000000 ∧ n = nI v) ∧ ∃ u, u < 5 ∧ s = nI u) ∧ (w = 5 → (∃ v, v < 1000000 ∧ n = nI v) ∧ ∃ u, u < 4 ∧ s = nI u) ∧ (w = 2 ∨ w = 3 ∨ w = 4 → n = -1 ∧ s = -1)
theorem pNum_lt {t : List Int32} {p : Nat} {q : Nat × Nat} (h : pNum t p = some q) : q.1 < 1000000 := by
  unfold pNum at h
  split at h
  · cases h
  · rename_i hn
    cases h
    have h6 : skip cD t (skip cB t p) - skip cB t p ≤ 6 := Nat.le_of_not_lt (fun y => hn (Or.inr y))
    have h1 := dV_le (t := t) (a := skip cB t p) (skip cD t (skip cB t p) - skip cB t p) (fun j hj => skip_in (i := skip cB t p) rfl (skip cB t p + j) (by omega) (by omega))
    exact Nat.lt_of_lt_of_le h1 (Nat.pow_le_pow_right (by decide) h6)
theorem pSuit_lt {t : List Int32} {k p : Nat} {q : Nat × Nat} (h : pSuit t k p = some q) : q.1 < k := by
  unfold pSuit at h
  split at h
  · cases hl : ltr (bA t (skip cB t p)) k with
    | none => rw [hl] at h; cases h
    | some u =>
      rw [hl] at h
      cases h
      exact ltr_lt hl
  · cases h
theorem sRead_ok {t : List Int32} {x : Nat × Int32 × Int32 × Int32} (h : sRead t = .inr x) : ∃ w, w < 9 ∧ x.2.1 = nI w ∧ okRd w x.2.2.1 x.2.2.2 := by
  unfold sRead at h
  cases hp : pWord t with
  | none =>
    rw [hp] at h
    unfold sWord at h
    rw [hp] at h
    cases h
  | some w =>
    rw [hp] at h
    have hw := pWord_lt hp
    refine ⟨w, hw, ?_⟩
    have hs : sWord t = .inr (skip cL t (skip cB t 0), nI w, -1, -1) := by unfold sWord; rw [hp]
    rw [hs] at h
    -- the end takes nothing of it
    have he : ∀ s : aPs, sEnd t s = .inr x → ∃ y : Nat × Int32 × Int32 × Int32, s = .inr y ∧ x.2 = y.2 := fun s hx => by
      cases s with
      | inl f => cases hx
      | inr y =>
        unfold sEnd at hx
        dsimp only at hx
        split at hx
        · cases hx
        · cases hx
          exact ⟨y, rfl, rfl⟩
    obtain ⟨y, hy, hxy⟩ := he _ h
    have hn : ∀ (s : Nat × Int32 × Int32 × Int32) (y : Nat × Int32 × Int32 × Int32), sNum t (.inr s) = .inr y → y.2.1 = s.2.1 ∧ y.2.2.2 = s.2.2.2 ∧ ∃ v, v < 1000000 ∧ y.2.2.1 = nI v := fun s y hx => by
      unfold sNum at hx
      dsimp only at hx
      cases hq : pNum t s.1 with
      | none => rw [hq] at hx; cases hx
      | some q =>
        rw [hq] at hx
        cases hx
        exact ⟨rfl, rfl, q.1, pNum_lt hq, rfl⟩
    have hu : ∀ (k : Nat) (s : Nat × Int32 × Int32 × Int32) (y : Nat × Int32 × Int32 × Int32), sSuit t k (.inr s) = .inr y → y.2.1 = s.2.1 ∧ y.2.2.1 = s.2.2.1 ∧ ∃ v, v < k ∧ y.2.2.2 = nI v := fun k s y hx => by
      unfold sSuit at hx
      dsimp only at hx
      cases hq : pSuit t k s.1 with
      | none => rw [hq] at hx; cases hx
      | some q =>
        rw [hq] at hx
        cases hx
        exact ⟨rfl, rfl, q.1, pSuit_lt hq, rfl⟩
    rw [hxy]
    unfold sRest at hy
    by_cases h0 : w = 0 ∨ w = 6 ∨ w = 7 ∨ w = 8
    · rw [if_pos h0] at hy
      obtain ⟨a, b, c⟩ := hn _ _ hy
      exact ⟨a, fun _ => ⟨c, b⟩, fun z => by omega, fun z => by omega, fun z => by omega⟩
    · rw [if_neg h0] at hy
      by_cases h1 : w = 1
      · rw [if_pos h1] at hy
        cases hq : sNum t (.inr (skip cL t (skip cB t 0), nI w, -1, -1)) with
        | inl f => rw [hq] at hy; cases hy
        | inr s =>
          rw [hq] at hy
          obtain ⟨a, b, c⟩ := hn _ _ hq
          obtain ⟨a2, b2, c2⟩ := hu 5 _ _ hy
          rw [a2, b2]
          exact ⟨a, fun z => by omega, fun _ => ⟨c, c2⟩, fun z => by omega, fun z => by omega⟩
      · rw [if_neg h1] at hy
        by_cases h5 : w = 5
        · rw [if_pos h5] at hy
          cases hq : sSuit t 4 (.inr (skip cL t (skip cB t 0), nI w, -1, -1)) with
          | inl f => rw [hq] at hy; cases hy
          | inr s =>
            rw [hq] at hy
            obtain ⟨a, b, c⟩ := hu 4 _ _ hq
            obtain ⟨a2, b2, c2⟩ := hn _ _ hy
            rw [a2, b2]
            exact ⟨a, fun z => by omega, fun z => by omega, fun _ => ⟨c2, c⟩, fun z => by omega⟩
        · rw [if_neg h5] at hy
          cases hy
          exact ⟨rfl, fun z => by omega, fun z => by omega, fun z => by omega, fun _ => ⟨rfl, rfl⟩⟩
theorem tO_le {T : aT} (h : tInv T) (k : T.1.1 = 2) : tO T ≤ 8 - T.2.2.1.2.2.2.2.length / 4 := by
  obtain ⟨k1, k2, -⟩ := h.play k
  unfold tO aO
  have := aV_bd (x := T.2.2.1.1) (dl := T.2.2.1.2.1) (s := aSd T.2.2.1.1 T.2.2.1.2.2.2.2) (32 - T.2.2.1.2.2.2.2.length) T.2.2.1.2.2.2.2 (by omega) k1
  omega
theorem fit_of {T : aT} {w : Nat} {n s : Int32} (hT : tInv T) (hw : w < 9) (h1 : dTime T w = true) (h2 : dNum w n = true) (h3 : dFair T w n s = true) (h4 : okRd w n s) : fit T (w, n, s) := by
  obtain ⟨r0, r1, r5, r2⟩ := h4
  refine ⟨hw, fun z => ?_, fun z => ?_, fun z => ?_, fun z => ?_, fun z => ?_, fun z => ?_, fun z => ?_, fun z => ?_, fun z => ?_⟩ <;> (obtain rfl : w = _ := z)
  · obtain ⟨⟨v, hv, rfl⟩, rfl⟩ := r0 (by decide)
    exact ⟨by simpa [dTime] using h1, by show ub (nI v) < 1000000; rw [ub_nI (by omega)]; exact hv, rfl⟩
  · obtain ⟨⟨v, hv, rfl⟩, u, hu, rfl⟩ := r1 rfl
    have h2' : nI 4 ≤ nI v ∧ nI v ≤ nI 8 := by simpa [dNum] using h2
    have a := (nI_leI (by decide) (by omega)).mp h2'.1
    have b := (nI_leI (by omega) (by decide)).mp h2'.2
    exact ⟨by simpa [dTime] using h1, by show 4 ≤ ub (nI v); rw [ub_nI (by omega)]; exact a, by show ub (nI v) ≤ 8; rw [ub_nI (by omega)]; exact b, by show ub (nI u) < 5; rw [ub_nI (by omega)]; exact hu⟩
  · obtain ⟨rfl, rfl⟩ := r2 (by decide)
    exact ⟨by simpa [dTime] using h1, rfl, rfl⟩
  · obtain ⟨rfl, rfl⟩ := r2 (by decide)
    have h1' : T.1.1 = 1 ∧ T.2.1.2.1.isSome = true ∧ dSame T = false ∧ T.2.1.1.2.1 = 0 := by simpa [dTime] using h1
    exact ⟨h1'.1, h1'.2.2.2, rfl, rfl⟩
  · obtain ⟨rfl, rfl⟩ := r2 (by decide)
    have h1' : T.1.1 = 1 ∧ T.2.1.2.1.isSome = true ∧ dSame T = true ∧ T.2.1.1.2.1 = 1 := by simpa [dTime] using h1
    exact ⟨h1'.1, h1'.2.2.2, rfl, rfl⟩
  · obtain ⟨⟨v, hv, rfl⟩, u, hu, rfl⟩ := r5 rfl
    have h2' : 0 ≤ nI v ∧ nI v < nI 8 := by simpa [dNum] using h2
    have b := (nI_ltI (by omega) (by decide)).mp h2'.2
    refine ⟨by simpa [dTime] using h1, ?_, ?_, ?_⟩
    · show ub (nI v) < 8
      rw [ub_nI (by omega)]
      exact b
    · show ub (nI u) < 4
      rw [ub_nI (by omega)]
      exact hu
    · unfold dFair at h3
      rw [if_neg (by decide), if_pos rfl] at h3
      exact h3
  · obtain ⟨⟨v, hv, rfl⟩, rfl⟩ := r0 (by decide)
    have hl : dLate T = true := by simpa [dTime] using h1
    obtain ⟨l1, l2⟩ := dLate_t.mp hl
    have hf : nI v ≤ nI (tO T) := by simpa [dFair] using h3
    have hle := tO_le hT l1
    have := (nI_leI (by omega) (by omega)).mp hf
    refine ⟨l1, ?_, rfl⟩
    show ub (nI v) ≤ _
    rw [ub_nI (by omega)]
    omega
  · obtain ⟨⟨v, hv, rfl⟩, rfl⟩ := r0 (by decide)
    have h2' : 0 ≤ nI v ∧ nI v < nI 4 := by simpa [dNum] using h2
    have b := (nI_ltI (by omega) (by decide)).mp h2'.2
    exact ⟨by simpa [dTime] using h1, by show ub (nI v) < 4; rw [ub_nI (by omega)]; exact b, rfl⟩
  · obtain ⟨⟨v, hv, rfl⟩, rfl⟩ := r0 (by decide)
    have h2' : 0 ≤ nI v ∧ nI v < nI 3 := by simpa [dNum] using h2
    have b := (nI_ltI (by omega) (by decide)).mp h2'.2
    exact ⟨by simpa [dTime] using h1, by show ub (nI v) < 3; rw [ub_nI (by omega)]; exact b, rfl⟩
theorem rRef_0 {T : aT} {c w : Nat} {n : Int32} (h : rRef T c w n = 0) : c < 90 ∧ dTime T w = true ∧ dNum w n = true := by
  unfold rRef at h
  split at h
  · exact absurd h (by decide)
  · rename_i h1
    split at h
    · rename_i h2
      split at h
      · rename_i h3
        exact ⟨by omega, h2, h3⟩
      · exact absurd h (by decide)
    · exact absurd h (by decide)
theorem eA_old {l : List aE} {e : aE} {i : Nat} (h : i < l.length) : eA (l ++ [e]) i = eA l i := by
  unfold eA
  rw [List.getD_eq_getElem?_getD, List.getD_eq_getElem?_getD, List.getElem?_append_left h]
theorem eA_new {l : List aE} {e : aE} : eA (l ++ [e]) l.length = e := by
  unfold eA
  rw [List.getD_eq_getElem?_getD, List.getElem?_append_right (Nat.le_refl _), Nat.sub_self]
  rfl
theorem zT_add {l : List aE} {e : aE} : zT (l ++ [e]) = tStep (zT l) e.1 := by
  unfold zT lA
  rw [List.map_append]
  exact tFold_add
theorem lInv_add {l : List aE} {e : aE} (h : lInv l) (hl : l.length < 90) (k : fit (zT l) e.1) : lInv (l ++ [e]) := by
  refine ⟨by rw [List.length_append, List.length_singleton]; omega, ?_⟩
  unfold lA
  rw [List.map_append]
  exact okL_add h.2 k
theorem RpL_add {c : Nat} {M M' : mM} {l : List aE} {e : aE} (h : RpL c M l) (hl : l.length < 90) (e4 : M' c 4 = nI (l.length + 1)) (k1 : M' (c + 1) = upd (M (c + 1)) l.length (nI e.1.1)) (k2 : M' (c + 2) = upd (M (c + 2)) l.length e.1.2.1) (k3 : M' (c + 3) = upd (M (c + 3)) l.length e.1.2.2) (k4 : M' (c + 4) = upd (M (c + 4)) l.length e.2) : RpL c M' (l ++ [e]) := by
  refine ⟨by rw [List.length_append, List.length_singleton]; exact e4, fun i hi => ?_⟩
  rw [List.length_append, List.length_singleton] at hi
  rw [k1, k2, k3, k4]
  by_cases q : i = l.length
  · rw [q, eA_new, upd_s, upd_s, upd_s, upd_s]
    exact ⟨rfl, rfl, rfl, rfl⟩
  · rw [eA_old (by omega), upd_n q, upd_n q, upd_n q, upd_n q]
    exact h.2 i (by omega)
def F_act (z : aZ) (as : List Int32) : Int32 × aZ := match as with
  | [] => match sRead z.1 with
    | .inl f => (-100 - nI f, [], z.2)
    | .inr x => if rRef (zT z.2.1) z.2.1.length (ub x.2.1) x.2.2.1 = 0 then (if dFair (zT z.2.1) (ub x.2.1) x.2.2.1 x.2.2.2 = true then (nI (z.2.1.length + 1), [], z.2.1 ++ [((ub x.2.1, x.2.2.1, x.2.2.2), turnI (zT z.2.1))], z.2.2) else (-6, [], z.2)) else (rRef (zT z.2.1) z.2.1.length (ub x.2.1) x.2.2.1, [], z.2)
  | _ => (0, z)
