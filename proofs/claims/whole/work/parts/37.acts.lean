/-! ===== CLASS Table: a double, the ranking, the rule, as the memory shows them ===== -/
theorem dbl_T {t : Nat} {M : mM} {T : aT} (hR : RpT t M T) (h1 : T.2.1.1.1 < 4) : RpT t (mW1 (mW1 (mW1 M (t + 1) 5 (M (t + 1) 5 + nI 1)) (t + 1) 6 (nI 0)) (t + 1) 1 ((M (t + 1) 1 + nI 1) &&& nI 3)) (T.1, bDbl T.2.1, T.2.2) ∧ FrT t M (mW1 (mW1 (mW1 M (t + 1) 5 (M (t + 1) 5 + nI 1)) (t + 1) 6 (nI 0)) (t + 1) 1 ((M (t + 1) 1 + nI 1) &&& nI 3)) := by
  obtain ⟨hT, ⟨b1, b5, b6, b2, b3, b4, b7, b8⟩, hp, hS⟩ := hR
  have f : ∀ (u v w : Int32) (c : Nat), c ≠ t + 1 → mW1 (mW1 (mW1 M (t + 1) 5 u) (t + 1) 6 v) (t + 1) 1 w c = M c := fun u v w c h => by rw [mW1_c h, mW1_c h, mW1_c h]
  have g : ∀ (u v w : Int32) (k : Nat), k ≠ 1 → k ≠ 5 → k ≠ 6 → mW1 (mW1 (mW1 M (t + 1) 5 u) (t + 1) 6 v) (t + 1) 1 w (t + 1) k = M (t + 1) k := fun u v w k h1 h5 h6 => by rw [mW1_k h1, mW1_k h6, mW1_k h5]
  rw [b1, b5, nI_add, nI_add, nI_and3 _ (by omega)]
  refine ⟨⟨?_, ⟨mW1_s, ?_, ?_, (g _ _ _ 2 (by decide) (by decide) (by decide)).trans b2, (g _ _ _ 3 (by decide) (by decide) (by decide)).trans b3, (g _ _ _ 4 (by decide) (by decide) (by decide)).trans b4, (g _ _ _ 7 (by decide) (by decide) (by decide)).trans b7, fun j hj => ?_⟩, RpS_fr hp (fun k hk => f _ _ _ _ (by omega)), RpSc_fr hS (f _ _ _ _ (by omega)) (f _ _ _ _ (by omega))⟩, fun c hc => f _ _ _ _ (by omega)⟩
  · rw [f _ _ _ t (by omega)]
    exact hT
  · rw [mW1_k (by decide), mW1_k (by decide), mW1_s]
    rfl
  · rw [mW1_k (by decide), mW1_s]
    rfl
  · rw [f _ _ _ (t + 1 + 1) (by omega)]
    exact b8 j hj
theorem rank_T {t : Nat} {M : mM} {T : aT} (hR : RpT t M T) (y : Int32) : RpT t (mW1 M t 5 y) ((T.1.1, T.1.2.1, ub y, T.1.2.2.2), T.2) ∧ FrT t M (mW1 M t 5 y) := by
  obtain ⟨⟨r3, r4, r5, r6⟩, hB, hp, hS⟩ := hR
  refine ⟨⟨⟨?_, ?_, ?_, ?_⟩, RpB_fr hB (mW1_c (by omega)) (mW1_c (by omega)), RpS_fr hp (fun k hk => mW1_c (by omega)), RpSc_fr hS (mW1_c (by omega)) (mW1_c (by omega))⟩, fun c hc => mW1_c (by omega)⟩
  · rw [mW1_k (by decide)]
    exact r3
  · rw [mW1_k (by decide)]
    exact r4
  · rw [mW1_s]
    exact (nI_ub y).symm
  · rw [mW1_k (by decide)]
    exact r6
theorem rule_T {t : Nat} {M : mM} {T : aT} (hR : RpT t M T) (y : Int32) : RpT t (mW1 M t 6 y) ((T.1.1, T.1.2.1, T.1.2.2.1, ub y), T.2) ∧ FrT t M (mW1 M t 6 y) := by
  obtain ⟨⟨r3, r4, r5, r6⟩, hB, hp, hS⟩ := hR
  refine ⟨⟨⟨?_, ?_, ?_, ?_⟩, RpB_fr hB (mW1_c (by omega)) (mW1_c (by omega)), RpS_fr hp (fun k hk => mW1_c (by omega)), RpSc_fr hS (mW1_c (by omega)) (mW1_c (by omega))⟩, fun c hc => mW1_c (by omega)⟩
  · rw [mW1_k (by decide)]
    exact r3
  · rw [mW1_k (by decide)]
    exact r4
  · rw [mW1_k (by decide)]
    exact r5
  · rw [mW1_s]
    exact (nI_ub y).symm
