/-! ===== CLASS Table: a pass, its contract ===== -/
theorem tPass_none {T : aT} (ho : T.2.1.2.1 = none) : tPass T = if 4 ≤ T.2.1.1.2.2 + 1 then tEnd (T.1, bPass T.2.1, T.2.2) else (T.1, bPass T.2.1, T.2.2) := by
  obtain ⟨v, ⟨c, o, r⟩, s⟩ := T
  dsimp only at ho
  subst ho
  rfl
theorem tPass_few {T : aT} {w : Nat × Nat × Nat} (ho : T.2.1.2.1 = some w) (h : ¬ 3 ≤ T.2.1.1.2.2 + 1) : tPass T = (T.1, bPass T.2.1, T.2.2) := by
  obtain ⟨v, ⟨c, o, r⟩, s⟩ := T
  obtain ⟨n, u, q⟩ := w
  dsimp only at ho
  subst ho
  exact if_neg h
theorem pa_run_13 (g : mG) (P : mP) (M : mM) (T : aT) (hR : RpT 13 M T) (hok : okPass T) (hP : ∀ M', RpT 13 M' (tPass T) ∧ FrT 13 M M' → P none M') :
    mRun (mSx g) (f_X5_pass g) P (0, [some (.inr (some 13))], [], M) := by
  obtain ⟨h1, h2, h3, h4, h5⟩ := hok
  have hM2 := pa_bid_13 hR h2
  have hR0 := hR
  obtain ⟨⟨-, q4, -, -⟩, ⟨-, -, b6, b2, b3, b4, -, b8⟩, -, -⟩ := hR0
  have b6' : M 14 6 = nI T.2.1.1.2.2 := b6
  have b2' : M 14 2 = oI (T.2.1.2.1.map fun q => q.1) := b2
  have b3' : M 14 3 = oI (T.2.1.2.1.map fun q => q.2.1) := b3
  have b4' : M 14 4 = oI (T.2.1.2.1.map fun q => q.2.2 % 2) := b4
  have hend := end_T hM2.1 h1
  rw [show mW1 (mW1 M 14 6 (M 14 6 + nI 1)) 14 1 ((M 14 1 + nI 1) &&& nI 3) 13 = M 13 by rw [mW1_c (by decide), mW1_c (by decide)]] at hend
  have hlt : ∀ k, k < 100 → (M 14 6 + nI 1 < nI k ↔ T.2.1.1.2.2 + 1 < k) := fun k hk => by
    rw [b6', nI_add]
    simp (disch := omega) only [fa_lt, nI_toInt]
    omega
  refine v_pa_0_13 g M P ?_
  intro M1 M2
  cases ho : T.2.1.2.1 with
  | none =>
    rw [ho] at b2'
    refine ⟨fun _ => ⟨Or.inl rfl, fun _ => ⟨fun z => hP M2 ⟨?_, hM2.2⟩, fun z => ?_⟩, fun w => absurd rfl w⟩, fun w => absurd b2' w⟩
    · rw [tPass_none ho, if_neg (by have := (hlt 4 (by decide)).mp z; omega)]
      exact hM2.1
    · intro M3 M4
      refine hP M4 ⟨?_, hM2.2.trans hend.2⟩
      rw [tPass_none ho, if_pos (by have := mt (hlt 4 (by decide)).mpr z; omega)]
      exact hend.1
  | some w =>
    obtain ⟨n, u, q⟩ := w
    obtain ⟨w1, w2, d, w3, w4⟩ := h5 _ ho
    dsimp only at w1 w2 w4
    rw [ho] at b2' b3' b4'
    have b2n : M 14 2 = nI n := b2'
    have b3n : M 14 3 = nI u := b3'
    have b4n : M 14 4 = nI (q % 2) := b4'
    have hne : ¬ M 14 2 = -1 := fun z => by
      rw [b2n] at z
      have := congrArg Int32.toInt z
      rw [nI_toInt (by omega), show (-1 : Int32).toInt = -1 by decide] at this
      omega
    refine ⟨fun w => absurd w hne, fun _ => ⟨fun z => ⟨Or.inl rfl, fun _ => ⟨fun _ => hP M2 ⟨?_, hM2.2⟩, fun y => absurd ((hlt 4 (by decide)).mpr (by have := (hlt 3 (by decide)).mp z; omega)) y⟩, fun w => absurd rfl w⟩, fun z => ⟨Or.inr rfl, fun w => absurd w (by decide), fun _ => ?_⟩⟩⟩
    · rw [tPass_few ho (by have := (hlt 3 (by decide)).mp z; omega)]
      exact hM2.1
    · have e : aAt (M 15) 10 (M 14 4 * nI 5 + M 14 3) = nI d := by
        have h2q := Nat.mod_lt q (show 0 < 2 by decide)
        rw [b4n, b3n, pk_mul, nI_add, aAt_in (by omega) (by decide)]
        have := b8 (q % 2 * 5 + u) (by omega)
        rw [show 5 * (q % 2) + u = q % 2 * 5 + u by omega] at w4
        exact this.trans (by rw [w4]; rfl)
      rw [e, nI_add, nI_and3 _ (by omega)]
      intro M21 M22 M23 M24 M25 M26
      exact hP M26 (pa_con_13 hR hM2.1 hM2.2 ho w3 w4 h4 (by have := mt (hlt 3 (by decide)).mpr z; show 3 ≤ T.2.1.1.2.2 + 1; omega))
theorem pa_run_26 (g : mG) (P : mP) (M : mM) (T : aT) (hR : RpT 26 M T) (hok : okPass T) (hP : ∀ M', RpT 26 M' (tPass T) ∧ FrT 26 M M' → P none M') :
    mRun (mSx g) (f_X5_pass g) P (0, [some (.inr (some 26))], [], M) := by
  obtain ⟨h1, h2, h3, h4, h5⟩ := hok
  have hM2 := pa_bid_26 hR h2
  have hR0 := hR
  obtain ⟨⟨-, q4, -, -⟩, ⟨-, -, b6, b2, b3, b4, -, b8⟩, -, -⟩ := hR0
  have b6' : M 27 6 = nI T.2.1.1.2.2 := b6
  have b2' : M 27 2 = oI (T.2.1.2.1.map fun q => q.1) := b2
  have b3' : M 27 3 = oI (T.2.1.2.1.map fun q => q.2.1) := b3
  have b4' : M 27 4 = oI (T.2.1.2.1.map fun q => q.2.2 % 2) := b4
  have hend := end_T hM2.1 h1
  rw [show mW1 (mW1 M 27 6 (M 27 6 + nI 1)) 27 1 ((M 27 1 + nI 1) &&& nI 3) 26 = M 26 by rw [mW1_c (by decide), mW1_c (by decide)]] at hend
  have hlt : ∀ k, k < 100 → (M 27 6 + nI 1 < nI k ↔ T.2.1.1.2.2 + 1 < k) := fun k hk => by
    rw [b6', nI_add]
    simp (disch := omega) only [fa_lt, nI_toInt]
    omega
  refine v_pa_0_26 g M P ?_
  intro M1 M2
  cases ho : T.2.1.2.1 with
  | none =>
    rw [ho] at b2'
    refine ⟨fun _ => ⟨Or.inl rfl, fun _ => ⟨fun z => hP M2 ⟨?_, hM2.2⟩, fun z => ?_⟩, fun w => absurd rfl w⟩, fun w => absurd b2' w⟩
    · rw [tPass_none ho, if_neg (by have := (hlt 4 (by decide)).mp z; omega)]
      exact hM2.1
    · intro M3 M4
      refine hP M4 ⟨?_, hM2.2.trans hend.2⟩
      rw [tPass_none ho, if_pos (by have := mt (hlt 4 (by decide)).mpr z; omega)]
      exact hend.1
  | some w =>
    obtain ⟨n, u, q⟩ := w
    obtain ⟨w1, w2, d, w3, w4⟩ := h5 _ ho
    dsimp only at w1 w2 w4
    rw [ho] at b2' b3' b4'
    have b2n : M 27 2 = nI n := b2'
    have b3n : M 27 3 = nI u := b3'
    have b4n : M 27 4 = nI (q % 2) := b4'
    have hne : ¬ M 27 2 = -1 := fun z => by
      rw [b2n] at z
      have := congrArg Int32.toInt z
      rw [nI_toInt (by omega), show (-1 : Int32).toInt = -1 by decide] at this
      omega
    refine ⟨fun w => absurd w hne, fun _ => ⟨fun z => ⟨Or.inl rfl, fun _ => ⟨fun _ => hP M2 ⟨?_, hM2.2⟩, fun y => absurd ((hlt 4 (by decide)).mpr (by have := (hlt 3 (by decide)).mp z; omega)) y⟩, fun w => absurd rfl w⟩, fun z => ⟨Or.inr rfl, fun w => absurd w (by decide), fun _ => ?_⟩⟩⟩
    · rw [tPass_few ho (by have := (hlt 3 (by decide)).mp z; omega)]
      exact hM2.1
    · have e : aAt (M 28) 10 (M 27 4 * nI 5 + M 27 3) = nI d := by
        have h2q := Nat.mod_lt q (show 0 < 2 by decide)
        rw [b4n, b3n, pk_mul, nI_add, aAt_in (by omega) (by decide)]
        have := b8 (q % 2 * 5 + u) (by omega)
        rw [show 5 * (q % 2) + u = q % 2 * 5 + u by omega] at w4
        exact this.trans (by rw [w4]; rfl)
      rw [e, nI_add, nI_and3 _ (by omega)]
      intro M21 M22 M23 M24 M25 M26
      exact hP M26 (pa_con_26 hR hM2.1 hM2.2 ho w3 w4 h4 (by have := mt (hlt 3 (by decide)).mpr z; show 3 ≤ T.2.1.1.2.2 + 1; omega))
theorem run_X5_pass : mRunOf 1 t_X5_pass f_X5_pass := fun g as M P hT => by
  obtain ⟨⟨t, T, y⟩, ⟨h1, rfl, h3, h4⟩, hP⟩ := hT
  refine ⟨Nat.le_of_ble_eq_true rfl, ?_⟩
  dsimp only at h1 h3 h4
  rcases h1 with rfl | rfl
  · exact pa_run_13 g P M T h3 h4 (fun M' h => hP M' h)
  · exact pa_run_26 g P M T h3 h4 (fun M' h => hP M' h)
theorem ok_X5_pass : mOK yX5_pass cX5_pass 1 (none) 3 t_X5_pass := mOK.of f_X5_pass (by decide) (fun _ => rfl) (fun g => mCodeOK kk_X5_pass) (fun g => mFldL fk_RX5 rfl) (fun g idx v h => by cases h) (fun g idx v h => by cases h) (mCalL (l := l_X5_pass) (List.forall_mem_cons.mpr ⟨mSite.V (idx := 94) ok_X1_pass (by decide) (by decide) rv_X1_pass wc_X1_pass wk_RX5_94 wi_X1_pass wl_X1_pass wn_RX1 wd_X1_pass, List.forall_mem_cons.mpr ⟨mSite.V (idx := 95) ok_X1_hasContract (by decide) (by decide) rv_X1_hasContract wc_X1_hasContract wk_RX5_95 wi_X1_hasContract wl_X1_hasContract wn_RX1 wd_X1_hasContract, List.forall_mem_cons.mpr ⟨mSite.V (idx := 98) ok_X1_nameDeclarer (by decide) (by decide) rv_X1_nameDeclarer wc_X1_nameDeclarer wk_RX5_98 wi_X1_nameDeclarer wl_X1_nameDeclarer wn_RX1 wd_X1_nameDeclarer, List.forall_mem_cons.mpr ⟨mSite.V (idx := 107) ok_X2_begin (by decide) (by decide) rv_X2_begin wc_X2_begin wk_RX5_107 wi_X2_begin wl_X2_begin wn_RX2 wd_X2_begin, List.forall_mem_cons.mpr ⟨mSite.V (idx := 113) ok_X5_endDeal (by decide) (by decide) rv_X5_endDeal wc_X5_endDeal wk_RX5_113 wi_X5_endDeal wl_X5_endDeal wn_RX5 wd_X5_endDeal, fun _ h => absurd h List.not_mem_nil⟩⟩⟩⟩⟩) (fun _ => rfl)) run_X5_pass

