/-! ===== CLASS Table: a bid, as the memory shows it ===== -/
/-- the five fields that a bid writes, the turn then -/
def mBid (M : mM) (b : Nat) (y s q : Int32) : mM := mW1 (mW1 (mW1 (mW1 (mW1 M b 2 y) b 3 s) b 4 q) b 5 (nI 0)) b 6 (nI 0)
theorem mBid_c {M : mM} {b c : Nat} {y s q : Int32} (h : c ≠ b) : mBid M b y s q c = M c := by
  unfold mBid
  rw [mW1_c h, mW1_c h, mW1_c h, mW1_c h, mW1_c h]
theorem mBid_f {M : mM} {b : Nat} {y s q : Int32} : mBid M b y s q b 2 = y ∧ mBid M b y s q b 3 = s ∧ mBid M b y s q b 4 = q ∧ mBid M b y s q b 5 = nI 0 ∧ mBid M b y s q b 6 = nI 0 ∧ mBid M b y s q b 7 = M b 7 := by
  unfold mBid
  refine ⟨?_, ?_, ?_, ?_, ?_, ?_⟩
  · rw [mW1_k (by decide), mW1_k (by decide), mW1_k (by decide), mW1_k (by decide), mW1_s]
  · rw [mW1_k (by decide), mW1_k (by decide), mW1_k (by decide), mW1_s]
  · rw [mW1_k (by decide), mW1_k (by decide), mW1_s]
  · rw [mW1_k (by decide), mW1_s]
  · rw [mW1_s]
  · rw [mW1_k (by decide), mW1_k (by decide), mW1_k (by decide), mW1_k (by decide), mW1_k (by decide)]
theorem bid_T {t : Nat} {M M' : mM} {T : aT} {n u : Nat} (hR : RpT t M T) (h1 : T.2.1.1.1 < 4) (hf : ∀ c, c ≠ t + 1 → c ≠ t + 2 → M' c = M c) (g1 : M' (t + 1) 1 = nI (nx T.2.1.1.1)) (g2 : M' (t + 1) 2 = nI n) (g3 : M' (t + 1) 3 = nI u) (g4 : M' (t + 1) 4 = nI (T.2.1.1.1 % 2)) (g5 : M' (t + 1) 5 = nI 0) (g6 : M' (t + 1) 6 = nI 0) (g7 : M' (t + 1) 7 = M (t + 1) 7) (gn : ∀ j, j < 10 → M' (t + 2) j = oI (if j = 5 * (T.2.1.1.1 % 2) + u ∧ T.2.1.2.2.2 j = none then some T.2.1.1.1 else T.2.1.2.2.2 j)) : RpT t M' (T.1, bBid T.2.1 n u, T.2.2) ∧ FrT t M M' := by
  obtain ⟨hT, ⟨b1, b5, b6, b2, b3, b4, b7, b8⟩, hp, hS⟩ := hR
  refine ⟨⟨?_, ⟨g1, g5, g6, g2, g3, g4, g7.trans b7, gn⟩, RpS_fr hp (fun k hk => hf _ (by omega) (by omega)), RpSc_fr hS (hf _ (by omega) (by omega)) (hf _ (by omega) (by omega))⟩, fun c hc => hf c (by omega) (by omega)⟩
  rw [hf t (by omega) (by omega)]
  exact hT
