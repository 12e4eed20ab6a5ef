/-! ===== CLASS Play: who wins a trick ===== -/
def RpP (p : Nat) (M : mM) (x : aX) (dl : Nat → Int32) (a0 a1 : Int32) (cs : List Nat) : Prop :=
  (M p 7 = nI cs.length ∧ M p 8 = nI (aTn x cs cs.length) ∧ M p 9 = x.1 ∧ M p 10 = nI x.2.1 ∧ M p 11 = x.2.2.1) ∧ (∀ j, j < cs.length → M (p + 4) j = nI (aC cs j)) ∧ (∀ q, q < 4 → M (p + 2) q = dl q) ∧ (∀ q, q < 4 → M (p + 3) q = aHd dl cs q) ∧
  (∀ i, 4 * i < cs.length → M (p + 5) i = nI (aLd x cs i)) ∧ (∀ i, 4 * i + 4 ≤ cs.length → M (p + 6) i = nI (aLd x cs (i + 1))) ∧ M (p + 7) 0 = nI (aWn x cs 0 (cs.length / 4)) + a0 ∧ M (p + 7) 1 = nI (aWn x cs 1 (cs.length / 4)) + a1
theorem aAt_in {f : Nat → Int32} {n j : Nat} (hj : j < n) (hn : n < 2 ^ 31) : aAt f n (nI j) = f j := by
  unfold aAt
  rw [if_pos ⟨nI_pos' (by omega), nI_lt hj hn⟩, nI_clamp (by omega)]
theorem aSet_in {f : Nat → Int32} {n j : Nat} {v : Int32} (hj : j < n) (hn : n < 2 ^ 31) : aSet f n (nI j) v = upd f j v := by
  unfold aSet
  rw [if_pos ⟨nI_pos' (by omega), nI_lt hj hn⟩, nI_clamp (by omega)]
theorem nI_mul4 (a b : Nat) : nI 4 * nI a + nI b = nI (4 * a + b) := by rw [pk_mul, nI_add]
theorem nI_and3 : ∀ n, n < 16 → nI n &&& nI 3 = nI (n % 4) := by decide +kernel
theorem nI_and1 : ∀ n, n < 16 → nI n &&& nI 1 = nI (n % 2) := by decide +kernel
theorem nI_div8 {n : Nat} (h : n < 2 ^ 31) : nI n / nI 8 = nI (n / 8) := pk_div h (by decide) (by decide)
theorem nI_div4 {n : Nat} (h : n < 2 ^ 31) : nI n / nI 4 = nI (n / 4) := pk_div h (by decide) (by decide)
theorem nI_mod4 {n : Nat} (h : n < 2 ^ 31) : nI n - nI n / nI 4 * nI 4 = nI (n % 4) := pk_rem h (by decide) (by decide)
theorem n8 : ¬ nI 8 = 0 := by decide
theorem n4 : ¬ nI 4 = 0 := by decide
theorem n2 : ¬ nI 2 = 0 := by decide
/-- one of four: the fold of a comparison -/
theorem aB4_of {f : Nat → Int} {b1 b2 b3 : Nat} (h1 : b1 = if f 0 < f 1 then 1 else 0) (h2 : b2 = if f b1 < f 2 then 2 else b1) (h3 : b3 = if f b2 < f 3 then 3 else b2) : aB4 f = b3 := by
  unfold aB4
  rw [← h1, ← h2, ← h3]

/-- of a trick that is full: cell, number, trump, ranking, the cards, its leader -/
def pre_X2_winnerOf (q : Nat × Nat × Int32 × Nat × List Nat × Nat) (as : List mV) (M : mM) : Prop := pl_X2 q.1 = true ∧ as = [.inr (some q.1), .inl (nI q.2.1), .inl q.2.2.1, .inl (nI q.2.2.2.1)] ∧ q.2.1 < 8 ∧ q.2.2.2.1 < 4 ∧ 4 * q.2.1 + 4 ≤ q.2.2.2.2.1.length ∧ q.2.2.2.2.2 < 4 ∧
  (∀ j, j < 4 → M (q.1 + 4) (4 * q.2.1 + j) = nI (aC q.2.2.2.2.1 (4 * q.2.1 + j)) ∧ aC q.2.2.2.2.1 (4 * q.2.1 + j) < 32) ∧ M (q.1 + 5) q.2.1 = nI q.2.2.2.2.2
def post_X2_winnerOf (q : Nat × Nat × Int32 × Nat × List Nat × Nat) (_ : List mV) (M : mM) (v : Int32) (M' : mM) : Prop := v = nI ((q.2.2.2.2.2 + aBi q.2.2.1 q.2.2.2.1 q.2.2.2.2.1 q.2.1) % 4) ∧ M' = M
abbrev t_X2_winnerOf : mG → mT := mRi pre_X2_winnerOf post_X2_winnerOf
theorem mo_X2_winnerOf : mMn t_X2_winnerOf := mRi_mono
theorem rv_X2_winnerOf : mHasR yX2_winnerOf 3 t_X2_winnerOf := by
  intro g as M P hT hl
  obtain ⟨q, ⟨h1, h2, -⟩, -⟩ := hT
  exact ⟨_, _, h2, is_X2 g _ h1⟩
def k_X2_winnerOf : List (Nat × mI) := [(0, .aload_n 0, 1, 0, 0, []),
  (1, .getfield 21, 3, 0, 0, []),
  (4, .iconst 4, 1, 0, nI 4, []),
  (5, .iload_n 1, 1, 1, 0, []),
  (6, .imul, 1, 0, 0, []),
  (7, .invokestatic 56, 3, 0, 0, []),
  (10, .bipush 8, 2, 0, nI 8, []),
  (12, .idiv, 1, 0, 0, []),
  (13, .istore 4, 2, 4, 0, []),
  (15, .iconst (-1), 1, 0, -1, []),
  (16, .istore 5, 2, 5, 0, []),
  (18, .iconst (-1), 1, 0, -1, []),
  (19, .istore 6, 2, 6, 0, []),
  (21, .iconst 0, 1, 0, nI 0, []),
  (22, .istore 7, 2, 7, 0, []),
  (24, .iload 7, 2, 7, 0, []),
  (26, .iconst 4, 1, 0, nI 4, []),
  (27, .if_icmp .ge 95, 3, 122, 0, []),
  (30, .aload_n 0, 1, 0, 0, []),
  (31, .getfield 21, 3, 0, 0, []),
  (34, .iconst 4, 1, 0, nI 4, []),
  (35, .iload_n 1, 1, 1, 0, []),
  (36, .imul, 1, 0, 0, []),
  (37, .iload 7, 2, 7, 0, []),
  (39, .iadd, 1, 0, 0, []),
  (40, .invokestatic 56, 3, 0, 0, []),
  (43, .istore 8, 2, 8, 0, []),
  (45, .iload 8, 2, 8, 0, []),
  (47, .bipush 8, 2, 0, nI 8, []),
  (49, .idiv, 1, 0, 0, []),
  (50, .istore 9, 2, 9, 0, []),
  (52, .iload 9, 2, 9, 0, []),
  (54, .iload 4, 2, 4, 0, []),
  (56, .if_icmp .eq 12, 3, 68, 0, []),
  (59, .iload 9, 2, 9, 0, []),
  (61, .iload_n 2, 1, 2, 0, []),
  (62, .if_icmp .eq 6, 3, 68, 0, []),
  (65, .goto 51, 3, 116, 0, []),
  (68, .iload 8, 2, 8, 0, []),
  (70, .iload_n 2, 1, 2, 0, []),
  (71, .iload_n 3, 1, 3, 0, []),
  (72, .invokestatic 89, 3, 0, 0, []),
  (75, .iload 9, 2, 9, 0, []),
  (77, .iload_n 2, 1, 2, 0, []),
  (78, .if_icmp .ne 8, 3, 86, 0, []),
  (81, .bipush 8, 2, 0, nI 8, []),
  (83, .goto 4, 3, 87, 0, []),
  (86, .iconst 0, 1, 0, nI 0, []),
  (87, .iadd, 1, 0, 0, []),
  (88, .istore 10, 2, 10, 0, []),
  (90, .iload 10, 2, 10, 0, []),
  (92, .iload 5, 2, 5, 0, []),
  (94, .if_icmp .le 22, 3, 116, 0, []),
  (97, .iload 10, 2, 10, 0, []),
  (99, .istore 5, 2, 5, 0, []),
  (101, .aload_n 0, 1, 0, 0, []),
  (102, .getfield 24, 3, 0, 0, []),
  (105, .iload_n 1, 1, 1, 0, []),
  (106, .invokestatic 56, 3, 0, 0, []),
  (109, .iload 7, 2, 7, 0, []),
  (111, .iadd, 1, 0, 0, []),
  (112, .iconst 3, 1, 0, nI 3, []),
  (113, .iand, 1, 0, 0, []),
  (114, .istore 6, 2, 6, 0, []),
  (116, .iinc 7 1, 3, 7, nI 1, []),
  (119, .goto (-95), 3, 24, 0, []),
  (122, .iload 6, 2, 6, 0, []),
  (124, .ireturn, 1, 0, 0, [])]
theorem kk_X2_winnerOf : (k_X2_winnerOf.all fun e => mChk cX2_winnerOf e.1 e.2) = true := by decide +kernel
def l_X2_winnerOf : List (Nat × Nat × (mG → mT)) := [(3 * 56 + 1, 2, t_X7_at), (3 * 89 + 1, 3, t_X7_strengthOf)]
def f_X2_winnerOf (g : mG) : mF := (mLk k_X2_winnerOf, mLk fl_RX2, mLk (l_X2_winnerOf.map fun e => (e.1, e.2.1, e.2.2 g)), mLk ([] : List (Nat × mV)), mLk ([] : List (Nat × mV)), some .int)
theorem m_X2_winnerOf (g : mG) : mMono (f_X2_winnerOf g) := mMonoL (g := g) (l := l_X2_winnerOf) (List.forall_mem_cons.mpr ⟨mo_X7_at, List.forall_mem_cons.mpr ⟨mo_X7_strengthOf, fun _ h => absurd h List.not_mem_nil⟩⟩) rfl

theorem v_wo_0_16 (g : mG) (M : mM) (P : mP) (i t h : Int32)
    (hVC : ¬ (nI 8) = 0 ∧ (mRun (mSx g) (f_X2_winnerOf g) P (24, [some (.inr (some 16)), some (.inl i), some (.inl t), some (.inl h), some (.inl ((aAt (M 20) 32 ((nI 4) * i)) / (nI 8))), some (.inl (-1)), some (.inl (-1)), some (.inl (nI 0)), none, none, none], [], M))) :
    mRun (mSx g) (f_X2_winnerOf g) P (0, [some (.inr (some 16)), some (.inl i), some (.inl t), some (.inl h), none, none, none, none, none, none, none], [], M) := mRun.vc (m_X2_winnerOf g) [24] 16 hVC

set_option maxRecDepth 100000 in
theorem v_wo_24_16 (g : mG) (M : mM) (P : mP) (i t h led s w k : Int32) (l8 l9 l10 : Option mV)
    (hVC : ((nI 4) ≤ k → P (some (.inl w)) M) ∧ (¬ (nI 4) ≤ k → ¬ (nI 8) = 0 ∧ (let v1 : Int32 := (aAt (M 20) 32 (((nI 4) * i) + k)) / (nI 8); (v1 = led → (¬ v1 = t → let v2 : Int32 := (fStr (aAt (M 20) 32 (((nI 4) * i) + k)) t h) + (nI 0); (v2 ≤ s → mRun (mSx g) (f_X2_winnerOf g) P (24, [some (.inr (some 16)), some (.inl i), some (.inl t), some (.inl h), some (.inl led), some (.inl s), some (.inl w), some (.inl (k + (nI 1))), some (.inl (aAt (M 20) 32 (((nI 4) * i) + k))), some (.inl v1), some (.inl v2)], [], M)) ∧ (¬ v2 ≤ s → mRun (mSx g) (f_X2_winnerOf g) P (24, [some (.inr (some 16)), some (.inl i), some (.inl t), some (.inl h), some (.inl led), some (.inl v2), some (.inl (((aAt (M 21) 8 i) + k) &&& (nI 3))), some (.inl (k + (nI 1))), some (.inl (aAt (M 20) 32 (((nI 4) * i) + k))), some (.inl v1), some (.inl v2)], [], M))) ∧ (¬ (¬ v1 = t) → let v3 : Int32 := (fStr (aAt (M 20) 32 (((nI 4) * i) + k)) t h) + (nI 8); (v3 ≤ s → mRun (mSx g) (f_X2_winnerOf g) P (24, [some (.inr (some 16)), some (.inl i), some (.inl t), some (.inl h), some (.inl led), some (.inl s), some (.inl w), some (.inl (k + (nI 1))), some (.inl (aAt (M 20) 32 (((nI 4) * i) + k))), some (.inl v1), some (.inl v3)], [], M)) ∧ (¬ v3 ≤ s → mRun (mSx g) (f_X2_winnerOf g) P (24, [some (.inr (some 16)), some (.inl i), some (.inl t), some (.inl h), some (.inl led), some (.inl v3), some (.inl (((aAt (M 21) 8 i) + k) &&& (nI 3))), some (.inl (k + (nI 1))), some (.inl (aAt (M 20) 32 (((nI 4) * i) + k))), some (.inl v1), some (.inl v3)], [], M)))) ∧ (¬ v1 = led → (v1 = t → (¬ v1 = t → let v4 : Int32 := (fStr (aAt (M 20) 32 (((nI 4) * i) + k)) t h) + (nI 0); (v4 ≤ s → mRun (mSx g) (f_X2_winnerOf g) P (24, [some (.inr (some 16)), some (.inl i), some (.inl t), some (.inl h), some (.inl led), some (.inl s), some (.inl w), some (.inl (k + (nI 1))), some (.inl (aAt (M 20) 32 (((nI 4) * i) + k))), some (.inl v1), some (.inl v4)], [], M)) ∧ (¬ v4 ≤ s → mRun (mSx g) (f_X2_winnerOf g) P (24, [some (.inr (some 16)), some (.inl i), some (.inl t), some (.inl h), some (.inl led), some (.inl v4), some (.inl (((aAt (M 21) 8 i) + k) &&& (nI 3))), some (.inl (k + (nI 1))), some (.inl (aAt (M 20) 32 (((nI 4) * i) + k))), some (.inl v1), some (.inl v4)], [], M))) ∧ (¬ (¬ v1 = t) → let v5 : Int32 := (fStr (aAt (M 20) 32 (((nI 4) * i) + k)) t h) + (nI 8); (v5 ≤ s → mRun (mSx g) (f_X2_winnerOf g) P (24, [some (.inr (some 16)), some (.inl i), some (.inl t), some (.inl h), some (.inl led), some (.inl s), some (.inl w), some (.inl (k + (nI 1))), some (.inl (aAt (M 20) 32 (((nI 4) * i) + k))), some (.inl v1), some (.inl v5)], [], M)) ∧ (¬ v5 ≤ s → mRun (mSx g) (f_X2_winnerOf g) P (24, [some (.inr (some 16)), some (.inl i), some (.inl t), some (.inl h), some (.inl led), some (.inl v5), some (.inl (((aAt (M 21) 8 i) + k) &&& (nI 3))), some (.inl (k + (nI 1))), some (.inl (aAt (M 20) 32 (((nI 4) * i) + k))), some (.inl v1), some (.inl v5)], [], M)))) ∧ (¬ v1 = t → mRun (mSx g) (f_X2_winnerOf g) P (24, [some (.inr (some 16)), some (.inl i), some (.inl t), some (.inl h), some (.inl led), some (.inl s), some (.inl w), some (.inl (k + (nI 1))), some (.inl (aAt (M 20) 32 (((nI 4) * i) + k))), some (.inl v1), l10], [], M)))))) :
    mRun (mSx g) (f_X2_winnerOf g) P (24, [some (.inr (some 16)), some (.inl i), some (.inl t), some (.inl h), some (.inl led), some (.inl s), some (.inl w), some (.inl k), l8, l9, l10], [], M) := mRun.vc (m_X2_winnerOf g) [24] 50 hVC

theorem wo_step_16 (g : mG) (M : mM) (P : mP) {i h led k d lr : Nat} {t s w : Int32} {l8 l9 l10 : Option mV} (hi : i < 8) (hh : h < 4) (hk : k < 4) (hd : d < 32) (hled : led < 4) (hlr : lr < 4) (e1 : aAt (M 20) 32 (nI (4 * i + k)) = nI d) (e2 : aAt (M 21) 8 (nI i) = nI lr) (hs : -1 ≤ s.toInt)
    (hA : s.toInt < aPw t h led d → ∀ (s' : Int32) (m8 m9 m10 : Option mV), s'.toInt = aPw t h led d → mRun (mSx g) (f_X2_winnerOf g) P (24, [some (.inr (some 16)), some (.inl (nI i)), some (.inl t), some (.inl (nI h)), some (.inl (nI led)), some (.inl s'), some (.inl (nI ((lr + k) % 4))), some (.inl (nI (k + 1))), m8, m9, m10], [], M))
    (hB : ¬ s.toInt < aPw t h led d → ∀ (m8 m9 m10 : Option mV), mRun (mSx g) (f_X2_winnerOf g) P (24, [some (.inr (some 16)), some (.inl (nI i)), some (.inl t), some (.inl (nI h)), some (.inl (nI led)), some (.inl s), some (.inl w), some (.inl (nI (k + 1))), m8, m9, m10], [], M)) :
    mRun (mSx g) (f_X2_winnerOf g) P (24, [some (.inr (some 16)), some (.inl (nI i)), some (.inl t), some (.inl (nI h)), some (.inl (nI led)), some (.inl s), some (.inl w), some (.inl (nI k)), l8, l9, l10], [], M) := by
  have q1 : ¬ nI 4 ≤ nI k := nI_ge hk (by decide)
  have e3 : nI 4 * nI i + nI k = nI (4 * i + k) := nI_mul4 i k
  have e4 : (nI lr + nI k) &&& nI 3 = nI ((lr + k) % 4) := by rw [nI_add]; exact nI_and3 _ (by omega)
  have e5 : fStr (nI d) t (nI h) = nI (sN (decide (nI (d / 8) = t)) h d) := fStr_N t hd hh
  have e6 : nI d / nI 8 = nI (d / 8) := nI_div8 (by omega)
  have hle := sN_le (decide (nI (d / 8) = t)) h d
  refine v_wo_24_16 g M P (nI i) t (nI h) (nI led) s w (nI k) l8 l9 l10 ⟨fun z => absurd z q1, fun _ => ⟨n8, ?_⟩⟩
  rw [e3, e1, e2, e4, e5, e6, nI_add, nI_add, nI_add, Nat.add_zero]
  have key : ∀ (n : Nat), n < 100 → (nI n ≤ s ↔ ¬ s.toInt < (n : Int)) := fun n hn => by
    rw [fa_le, nI_toInt (by omega)]
    omega
  by_cases ht : nI (d / 8) = t
  · have hp : aPw t h led d = ((sN (decide (nI (d / 8) = t)) h d + 8 : Nat) : Int) := by
      unfold aPw
      rw [if_pos ht]
      simp [ht]
      omega
    rw [hp] at hA hB
    have b1 := key (sN (decide (nI (d / 8) = t)) h d + 8) (by omega)
    have R : ∀ (m8 m9 m10 : Option mV), (nI (sN (decide (nI (d / 8) = t)) h d + 8) ≤ s → mRun (mSx g) (f_X2_winnerOf g) P (24, [some (.inr (some 16)), some (.inl (nI i)), some (.inl t), some (.inl (nI h)), some (.inl (nI led)), some (.inl s), some (.inl w), some (.inl (nI (k + 1))), m8, m9, m10], [], M)) ∧ (¬ nI (sN (decide (nI (d / 8) = t)) h d + 8) ≤ s → mRun (mSx g) (f_X2_winnerOf g) P (24, [some (.inr (some 16)), some (.inl (nI i)), some (.inl t), some (.inl (nI h)), some (.inl (nI led)), some (.inl (nI (sN (decide (nI (d / 8) = t)) h d + 8))), some (.inl (nI ((lr + k) % 4))), some (.inl (nI (k + 1))), m8, m9, m10], [], M)) :=
      fun m8 m9 m10 => ⟨fun z => hB (b1.mp z) m8 m9 m10, fun z => hA (Classical.not_not.mp (fun y => z (b1.mpr y))) _ m8 m9 m10 (nI_toInt (by omega))⟩
    exact ⟨fun _ => ⟨fun z => absurd ht z, fun _ => R _ _ _⟩, fun _ => ⟨fun _ => ⟨fun z => absurd ht z, fun _ => R _ _ _⟩, fun z => absurd ht z⟩⟩
  · have hdec : decide (nI (d / 8) = t) = false := decide_eq_false ht
    rw [hdec] at hle ⊢
    by_cases hl : d / 8 = led
    · have hp : aPw t h led d = ((sN false h d : Nat) : Int) := by
        unfold aPw
        rw [if_neg ht, if_pos hl]
      rw [hp] at hA hB
      have b1 := key (sN false h d) (by omega)
      exact ⟨fun _ => ⟨fun _ => ⟨fun z => hB (b1.mp z) _ _ _, fun z => hA (Classical.not_not.mp (fun y => z (b1.mpr y))) _ _ _ _ (nI_toInt (by omega))⟩, fun z => absurd ht z⟩, fun z => absurd (congrArg nI hl) z⟩
    · have hp : aPw t h led d = -1 := by
        unfold aPw
        rw [if_neg ht, if_neg hl]
      rw [hp] at hA hB
      refine ⟨fun z => absurd ((nI_eq (by omega) (by omega)).mp z) hl, fun _ => ⟨fun z => absurd z ht, fun _ => hB (by omega) _ _ _⟩⟩

theorem aPw_ge {t : Int32} {h led c : Nat} : -1 ≤ aPw t h led c := by
  unfold aPw
  split
  · omega
  · split <;> omega
theorem aPw_0 {t : Int32} {h c : Nat} : -1 < aPw t h (c / 8) c := by
  unfold aPw
  rw [if_pos rfl]
  split <;> omega
theorem wo_run_16 (g : mG) (M : mM) (P : mP) {i h lr : Nat} {t : Int32} {cs : List Nat} (hi : i < 8) (hh : h < 4) (hlr : lr < 4) (hl : 4 * i + 4 ≤ cs.length) (e1 : ∀ j, j < 4 → M 20 (4 * i + j) = nI (aC cs (4 * i + j)) ∧ aC cs (4 * i + j) < 32) (e2 : M 21 i = nI lr)
    (hP : P (some (.inl (nI ((lr + aBi t h cs i) % 4)))) M) : mRun (mSx g) (f_X2_winnerOf g) P (0, [some (.inr (some 16)), some (.inl (nI i)), some (.inl t), some (.inl (nI h)), none, none, none, none, none, none, none], [], M) := by
  have a1 : ∀ j, j < 4 → aAt (M 20) 32 (nI (4 * i + j)) = nI (aC cs (4 * i + j)) := fun j hj => by rw [aAt_in (by omega) (by decide)]; exact (e1 j hj).1
  have a2 : aAt (M 21) 8 (nI i) = nI lr := by rw [aAt_in hi (by decide)]; exact e2
  refine v_wo_0_16 g M P (nI i) t (nI h) ⟨n8, ?_⟩
  have a0 : aAt (M 20) 32 (nI 4 * nI i) / nI 8 = nI (aC cs (4 * i) / 8) := by
    rw [pk_mul]
    have := a1 0 (by omega)
    rw [Nat.add_zero] at this
    rw [this, nI_div8 (by have := (e1 0 (by omega)).2; rw [Nat.add_zero] at this; omega)]
  rw [a0]
  have c0 := (e1 0 (by omega)).2
  rw [Nat.add_zero] at c0
  have hled : aC cs (4 * i) / 8 < 4 := by omega
  have fin : ∀ (b : Nat) (s w : Int32) (m8 m9 m10 : Option mV), aBi t h cs i = b → w = nI ((lr + b) % 4) → mRun (mSx g) (f_X2_winnerOf g) P (24, [some (.inr (some 16)), some (.inl (nI i)), some (.inl t), some (.inl (nI h)), some (.inl (nI (aC cs (4 * i) / 8))), some (.inl s), some (.inl w), some (.inl (nI 4)), m8, m9, m10], [], M) := fun b s w m8 m9 m10 hb hw => by
    refine v_wo_24_16 g M P (nI i) t (nI h) _ s w (nI 4) m8 m9 m10 ⟨fun _ => ?_, fun z => absurd (nI_le (Nat.le_refl 4) (by decide)) z⟩
    rw [hw, ← hb]
    exact hP
  have B : ∀ b1 b2 b3 : Nat, b1 = (if aPw t h (aC cs (4 * i) / 8) (aC cs (4 * i + 0)) < aPw t h (aC cs (4 * i) / 8) (aC cs (4 * i + 1)) then 1 else 0) → b2 = (if aPw t h (aC cs (4 * i) / 8) (aC cs (4 * i + b1)) < aPw t h (aC cs (4 * i) / 8) (aC cs (4 * i + 2)) then 2 else b1) → b3 = (if aPw t h (aC cs (4 * i) / 8) (aC cs (4 * i + b2)) < aPw t h (aC cs (4 * i) / 8) (aC cs (4 * i + 3)) then 3 else b2) → aBi t h cs i = b3 := fun b1 b2 b3 h1 h2 h3 => aB4_of h1 h2 h3
  have m1 : ((-1 : Int32)).toInt = -1 := by decide
  have ge := fun (j : Nat) => @aPw_ge t h (aC cs (4 * i) / 8) (aC cs (4 * i + j))
  -- the last card, the third, the second: from any best one so far
  have s3 : ∀ (b : Nat) (s w : Int32) (m8 m9 m10 : Option mV), (∀ b3, b3 = (if aPw t h (aC cs (4 * i) / 8) (aC cs (4 * i + b)) < aPw t h (aC cs (4 * i) / 8) (aC cs (4 * i + 3)) then 3 else b) → aBi t h cs i = b3) → w = nI ((lr + b) % 4) → s.toInt = aPw t h (aC cs (4 * i) / 8) (aC cs (4 * i + b)) → mRun (mSx g) (f_X2_winnerOf g) P (24, [some (.inr (some 16)), some (.inl (nI i)), some (.inl t), some (.inl (nI h)), some (.inl (nI (aC cs (4 * i) / 8))), some (.inl s), some (.inl w), some (.inl (nI 3)), m8, m9, m10], [], M) := fun b s w m8 m9 m10 hb hw hs => by
    refine wo_step_16 g M P hi hh (by decide) (e1 3 (by omega)).2 hled hlr (a1 3 (by omega)) a2 (by rw [hs]; exact ge b) (fun z s' n8 n9 n10 hs' => ?_) (fun z n8 n9 n10 => ?_)
    · exact fin 3 _ _ _ _ _ (hb 3 (by rw [if_pos (by rw [← hs]; exact z)])) rfl
    · exact fin b _ _ _ _ _ (hb b (by rw [if_neg (by rw [← hs]; exact z)])) hw
  have s2 : ∀ (b : Nat) (s w : Int32) (m8 m9 m10 : Option mV), b = (if aPw t h (aC cs (4 * i) / 8) (aC cs (4 * i + 0)) < aPw t h (aC cs (4 * i) / 8) (aC cs (4 * i + 1)) then 1 else 0) → w = nI ((lr + b) % 4) → s.toInt = aPw t h (aC cs (4 * i) / 8) (aC cs (4 * i + b)) → mRun (mSx g) (f_X2_winnerOf g) P (24, [some (.inr (some 16)), some (.inl (nI i)), some (.inl t), some (.inl (nI h)), some (.inl (nI (aC cs (4 * i) / 8))), some (.inl s), some (.inl w), some (.inl (nI 2)), m8, m9, m10], [], M) := fun b s w m8 m9 m10 hb hw hs => by
    refine wo_step_16 g M P hi hh (by decide) (e1 2 (by omega)).2 hled hlr (a1 2 (by omega)) a2 (by rw [hs]; exact ge b) (fun z s' n8 n9 n10 hs' => ?_) (fun z n8 n9 n10 => ?_)
    · exact s3 2 _ _ _ _ _ (fun b3 h3 => B b 2 b3 hb (by rw [if_pos (by rw [← hs]; exact z)]) h3) rfl hs'
    · exact s3 b _ _ _ _ _ (fun b3 h3 => B b b b3 hb (by rw [if_neg (by rw [← hs]; exact z)]) h3) hw hs
  have s1 : ∀ (s w : Int32) (m8 m9 m10 : Option mV), w = nI ((lr + 0) % 4) → s.toInt = aPw t h (aC cs (4 * i) / 8) (aC cs (4 * i + 0)) → mRun (mSx g) (f_X2_winnerOf g) P (24, [some (.inr (some 16)), some (.inl (nI i)), some (.inl t), some (.inl (nI h)), some (.inl (nI (aC cs (4 * i) / 8))), some (.inl s), some (.inl w), some (.inl (nI 1)), m8, m9, m10], [], M) := fun s w m8 m9 m10 hw hs => by
    refine wo_step_16 g M P hi hh (by decide) (e1 1 (by omega)).2 hled hlr (a1 1 (by omega)) a2 (by rw [hs]; exact ge 0) (fun z s' n8 n9 n10 hs' => ?_) (fun z n8 n9 n10 => ?_)
    · exact s2 1 _ _ _ _ _ (by rw [if_pos (by rw [← hs]; exact z)]) rfl hs'
    · exact s2 0 _ _ _ _ _ (by rw [if_neg (by rw [← hs]; exact z)]) hw hs
  refine wo_step_16 g M P hi hh (by decide) (e1 0 (by omega)).2 hled hlr (a1 0 (by omega)) a2 (by rw [m1]; omega) (fun z s' n8 n9 n10 hs' => s1 _ _ _ _ _ rfl hs') (fun z => absurd (by rw [m1]; exact aPw_0) z)
theorem v_wo_0_29 (g : mG) (M : mM) (P : mP) (i t h : Int32)
    (hVC : ¬ (nI 8) = 0 ∧ (mRun (mSx g) (f_X2_winnerOf g) P (24, [some (.inr (some 29)), some (.inl i), some (.inl t), some (.inl h), some (.inl ((aAt (M 33) 32 ((nI 4) * i)) / (nI 8))), some (.inl (-1)), some (.inl (-1)), some (.inl (nI 0)), none, none, none], [], M))) :
    mRun (mSx g) (f_X2_winnerOf g) P (0, [some (.inr (some 29)), some (.inl i), some (.inl t), some (.inl h), none, none, none, none, none, none, none], [], M) := mRun.vc (m_X2_winnerOf g) [24] 16 hVC

set_option maxRecDepth 100000 in
theorem v_wo_24_29 (g : mG) (M : mM) (P : mP) (i t h led s w k : Int32) (l8 l9 l10 : Option mV)
    (hVC : ((nI 4) ≤ k → P (some (.inl w)) M) ∧ (¬ (nI 4) ≤ k → ¬ (nI 8) = 0 ∧ (let v1 : Int32 := (aAt (M 33) 32 (((nI 4) * i) + k)) / (nI 8); (v1 = led → (¬ v1 = t → let v2 : Int32 := (fStr (aAt (M 33) 32 (((nI 4) * i) + k)) t h) + (nI 0); (v2 ≤ s → mRun (mSx g) (f_X2_winnerOf g) P (24, [some (.inr (some 29)), some (.inl i), some (.inl t), some (.inl h), some (.inl led), some (.inl s), some (.inl w), some (.inl (k + (nI 1))), some (.inl (aAt (M 33) 32 (((nI 4) * i) + k))), some (.inl v1), some (.inl v2)], [], M)) ∧ (¬ v2 ≤ s → mRun (mSx g) (f_X2_winnerOf g) P (24, [some (.inr (some 29)), some (.inl i), some (.inl t), some (.inl h), some (.inl led), some (.inl v2), some (.inl (((aAt (M 34) 8 i) + k) &&& (nI 3))), some (.inl (k + (nI 1))), some (.inl (aAt (M 33) 32 (((nI 4) * i) + k))), some (.inl v1), some (.inl v2)], [], M))) ∧ (¬ (¬ v1 = t) → let v3 : Int32 := (fStr (aAt (M 33) 32 (((nI 4) * i) + k)) t h) + (nI 8); (v3 ≤ s → mRun (mSx g) (f_X2_winnerOf g) P (24, [some (.inr (some 29)), some (.inl i), some (.inl t), some (.inl h), some (.inl led), some (.inl s), some (.inl w), some (.inl (k + (nI 1))), some (.inl (aAt (M 33) 32 (((nI 4) * i) + k))), some (.inl v1), some (.inl v3)], [], M)) ∧ (¬ v3 ≤ s → mRun (mSx g) (f_X2_winnerOf g) P (24, [some (.inr (some 29)), some (.inl i), some (.inl t), some (.inl h), some (.inl led), some (.inl v3), some (.inl (((aAt (M 34) 8 i) + k) &&& (nI 3))), some (.inl (k + (nI 1))), some (.inl (aAt (M 33) 32 (((nI 4) * i) + k))), some (.inl v1), some (.inl v3)], [], M)))) ∧ (¬ v1 = led → (v1 = t → (¬ v1 = t → let v4 : Int32 := (fStr (aAt (M 33) 32 (((nI 4) * i) + k)) t h) + (nI 0); (v4 ≤ s → mRun (mSx g) (f_X2_winnerOf g) P (24, [some (.inr (some 29)), some (.inl i), some (.inl t), some (.inl h), some (.inl led), some (.inl s), some (.inl w), some (.inl (k + (nI 1))), some (.inl (aAt (M 33) 32 (((nI 4) * i) + k))), some (.inl v1), some (.inl v4)], [], M)) ∧ (¬ v4 ≤ s → mRun (mSx g) (f_X2_winnerOf g) P (24, [some (.inr (some 29)), some (.inl i), some (.inl t), some (.inl h), some (.inl led), some (.inl v4), some (.inl (((aAt (M 34) 8 i) + k) &&& (nI 3))), some (.inl (k + (nI 1))), some (.inl (aAt (M 33) 32 (((nI 4) * i) + k))), some (.inl v1), some (.inl v4)], [], M))) ∧ (¬ (¬ v1 = t) → let v5 : Int32 := (fStr (aAt (M 33) 32 (((nI 4) * i) + k)) t h) + (nI 8); (v5 ≤ s → mRun (mSx g) (f_X2_winnerOf g) P (24, [some (.inr (some 29)), some (.inl i), some (.inl t), some (.inl h), some (.inl led), some (.inl s), some (.inl w), some (.inl (k + (nI 1))), some (.inl (aAt (M 33) 32 (((nI 4) * i) + k))), some (.inl v1), some (.inl v5)], [], M)) ∧ (¬ v5 ≤ s → mRun (mSx g) (f_X2_winnerOf g) P (24, [some (.inr (some 29)), some (.inl i), some (.inl t), some (.inl h), some (.inl led), some (.inl v5), some (.inl (((aAt (M 34) 8 i) + k) &&& (nI 3))), some (.inl (k + (nI 1))), some (.inl (aAt (M 33) 32 (((nI 4) * i) + k))), some (.inl v1), some (.inl v5)], [], M)))) ∧ (¬ v1 = t → mRun (mSx g) (f_X2_winnerOf g) P (24, [some (.inr (some 29)), some (.inl i), some (.inl t), some (.inl h), some (.inl led), some (.inl s), some (.inl w), some (.inl (k + (nI 1))), some (.inl (aAt (M 33) 32 (((nI 4) * i) + k))), some (.inl v1), l10], [], M)))))) :
    mRun (mSx g) (f_X2_winnerOf g) P (24, [some (.inr (some 29)), some (.inl i), some (.inl t), some (.inl h), some (.inl led), some (.inl s), some (.inl w), some (.inl k), l8, l9, l10], [], M) := mRun.vc (m_X2_winnerOf g) [24] 50 hVC

theorem wo_step_29 (g : mG) (M : mM) (P : mP) {i h led k d lr : Nat} {t s w : Int32} {l8 l9 l10 : Option mV} (hi : i < 8) (hh : h < 4) (hk : k < 4) (hd : d < 32) (hled : led < 4) (hlr : lr < 4) (e1 : aAt (M 33) 32 (nI (4 * i + k)) = nI d) (e2 : aAt (M 34) 8 (nI i) = nI lr) (hs : -1 ≤ s.toInt)
    (hA : s.toInt < aPw t h led d → ∀ (s' : Int32) (m8 m9 m10 : Option mV), s'.toInt = aPw t h led d → mRun (mSx g) (f_X2_winnerOf g) P (24, [some (.inr (some 29)), some (.inl (nI i)), some (.inl t), some (.inl (nI h)), some (.inl (nI led)), some (.inl s'), some (.inl (nI ((lr + k) % 4))), some (.inl (nI (k + 1))), m8, m9, m10], [], M))
    (hB : ¬ s.toInt < aPw t h led d → ∀ (m8 m9 m10 : Option mV), mRun (mSx g) (f_X2_winnerOf g) P (24, [some (.inr (some 29)), some (.inl (nI i)), some (.inl t), some (.inl (nI h)), some (.inl (nI led)), some (.inl s), some (.inl w), some (.inl (nI (k + 1))), m8, m9, m10], [], M)) :
    mRun (mSx g) (f_X2_winnerOf g) P (24, [some (.inr (some 29)), some (.inl (nI i)), some (.inl t), some (.inl (nI h)), some (.inl (nI led)), some (.inl s), some (.inl w), some (.inl (nI k)), l8, l9, l10], [], M) := by
  have q1 : ¬ nI 4 ≤ nI k := nI_ge hk (by decide)
  have e3 : nI 4 * nI i + nI k = nI (4 * i + k) := nI_mul4 i k
  have e4 : (nI lr + nI k) &&& nI 3 = nI ((lr + k) % 4) := by rw [nI_add]; exact nI_and3 _ (by omega)
  have e5 : fStr (nI d) t (nI h) = nI (sN (decide (nI (d / 8) = t)) h d) := fStr_N t hd hh
  have e6 : nI d / nI 8 = nI (d / 8) := nI_div8 (by omega)
  have hle := sN_le (decide (nI (d / 8) = t)) h d
  refine v_wo_24_29 g M P (nI i) t (nI h) (nI led) s w (nI k) l8 l9 l10 ⟨fun z => absurd z q1, fun _ => ⟨n8, ?_⟩⟩
  rw [e3, e1, e2, e4, e5, e6, nI_add, nI_add, nI_add, Nat.add_zero]
  have key : ∀ (n : Nat), n < 100 → (nI n ≤ s ↔ ¬ s.toInt < (n : Int)) := fun n hn => by
    rw [fa_le, nI_toInt (by omega)]
    omega
  by_cases ht : nI (d / 8) = t
  · have hp : aPw t h led d = ((sN (decide (nI (d / 8) = t)) h d + 8 : Nat) : Int) := by
      unfold aPw
      rw [if_pos ht]
      simp [ht]
      omega
    rw [hp] at hA hB
    have b1 := key (sN (decide (nI (d / 8) = t)) h d + 8) (by omega)
    have R : ∀ (m8 m9 m10 : Option mV), (nI (sN (decide (nI (d / 8) = t)) h d + 8) ≤ s → mRun (mSx g) (f_X2_winnerOf g) P (24, [some (.inr (some 29)), some (.inl (nI i)), some (.inl t), some (.inl (nI h)), some (.inl (nI led)), some (.inl s), some (.inl w), some (.inl (nI (k + 1))), m8, m9, m10], [], M)) ∧ (¬ nI (sN (decide (nI (d / 8) = t)) h d + 8) ≤ s → mRun (mSx g) (f_X2_winnerOf g) P (24, [some (.inr (some 29)), some (.inl (nI i)), some (.inl t), some (.inl (nI h)), some (.inl (nI led)), some (.inl (nI (sN (decide (nI (d / 8) = t)) h d + 8))), some (.inl (nI ((lr + k) % 4))), some (.inl (nI (k + 1))), m8, m9, m10], [], M)) :=
      fun m8 m9 m10 => ⟨fun z => hB (b1.mp z) m8 m9 m10, fun z => hA (Classical.not_not.mp (fun y => z (b1.mpr y))) _ m8 m9 m10 (nI_toInt (by omega))⟩
    exact ⟨fun _ => ⟨fun z => absurd ht z, fun _ => R _ _ _⟩, fun _ => ⟨fun _ => ⟨fun z => absurd ht z, fun _ => R _ _ _⟩, fun z => absurd ht z⟩⟩
  · have hdec : decide (nI (d / 8) = t) = false := decide_eq_false ht
    rw [hdec] at hle ⊢
    by_cases hl : d / 8 = led
    · have hp : aPw t h led d = ((sN false h d : Nat) : Int) := by
        unfold aPw
        rw [if_neg ht, if_pos hl]
      rw [hp] at hA hB
      have b1 := key (sN false h d) (by omega)
      exact ⟨fun _ => ⟨fun _ => ⟨fun z => hB (b1.mp z) _ _ _, fun z => hA (Classical.not_not.mp (fun y => z (b1.mpr y))) _ _ _ _ (nI_toInt (by omega))⟩, fun z => absurd ht z⟩, fun z => absurd (congrArg nI hl) z⟩
    · have hp : aPw t h led d = -1 := by
        unfold aPw
        rw [if_neg ht, if_neg hl]
      rw [hp] at hA hB
      refine ⟨fun z => absurd ((nI_eq (by omega) (by omega)).mp z) hl, fun _ => ⟨fun z => absurd z ht, fun _ => hB (by omega) _ _ _⟩⟩


theorem wo_run_29 (g : mG) (M : mM) (P : mP) {i h lr : Nat} {t : Int32} {cs : List Nat} (hi : i < 8) (hh : h < 4) (hlr : lr < 4) (hl : 4 * i + 4 ≤ cs.length) (e1 : ∀ j, j < 4 → M 33 (4 * i + j) = nI (aC cs (4 * i + j)) ∧ aC cs (4 * i + j) < 32) (e2 : M 34 i = nI lr)
    (hP : P (some (.inl (nI ((lr + aBi t h cs i) % 4)))) M) : mRun (mSx g) (f_X2_winnerOf g) P (0, [some (.inr (some 29)), some (.inl (nI i)), some (.inl t), some (.inl (nI h)), none, none, none, none, none, none, none], [], M) := by
  have a1 : ∀ j, j < 4 → aAt (M 33) 32 (nI (4 * i + j)) = nI (aC cs (4 * i + j)) := fun j hj => by rw [aAt_in (by omega) (by decide)]; exact (e1 j hj).1
  have a2 : aAt (M 34) 8 (nI i) = nI lr := by rw [aAt_in hi (by decide)]; exact e2
  refine v_wo_0_29 g M P (nI i) t (nI h) ⟨n8, ?_⟩
  have a0 : aAt (M 33) 32 (nI 4 * nI i) / nI 8 = nI (aC cs (4 * i) / 8) := by
    rw [pk_mul]
    have := a1 0 (by omega)
    rw [Nat.add_zero] at this
    rw [this, nI_div8 (by have := (e1 0 (by omega)).2; rw [Nat.add_zero] at this; omega)]
  rw [a0]
  have c0 := (e1 0 (by omega)).2
  rw [Nat.add_zero] at c0
  have hled : aC cs (4 * i) / 8 < 4 := by omega
  have fin : ∀ (b : Nat) (s w : Int32) (m8 m9 m10 : Option mV), aBi t h cs i = b → w = nI ((lr + b) % 4) → mRun (mSx g) (f_X2_winnerOf g) P (24, [some (.inr (some 29)), some (.inl (nI i)), some (.inl t), some (.inl (nI h)), some (.inl (nI (aC cs (4 * i) / 8))), some (.inl s), some (.inl w), some (.inl (nI 4)), m8, m9, m10], [], M) := fun b s w m8 m9 m10 hb hw => by
    refine v_wo_24_29 g M P (nI i) t (nI h) _ s w (nI 4) m8 m9 m10 ⟨fun _ => ?_, fun z => absurd (nI_le (Nat.le_refl 4) (by decide)) z⟩
    rw [hw, ← hb]
    exact hP
  have B : ∀ b1 b2 b3 : Nat, b1 = (if aPw t h (aC cs (4 * i) / 8) (aC cs (4 * i + 0)) < aPw t h (aC cs (4 * i) / 8) (aC cs (4 * i + 1)) then 1 else 0) → b2 = (if aPw t h (aC cs (4 * i) / 8) (aC cs (4 * i + b1)) < aPw t h (aC cs (4 * i) / 8) (aC cs (4 * i + 2)) then 2 else b1) → b3 = (if aPw t h (aC cs (4 * i) / 8) (aC cs (4 * i + b2)) < aPw t h (aC cs (4 * i) / 8) (aC cs (4 * i + 3)) then 3 else b2) → aBi t h cs i = b3 := fun b1 b2 b3 h1 h2 h3 => aB4_of h1 h2 h3
  have m1 : ((-1 : Int32)).toInt = -1 := by decide
  have ge := fun (j : Nat) => @aPw_ge t h (aC cs (4 * i) / 8) (aC cs (4 * i + j))
  -- the last card, the third, the second: from any best one so far
  have s3 : ∀ (b : Nat) (s w : Int32) (m8 m9 m10 : Option mV), (∀ b3, b3 = (if aPw t h (aC cs (4 * i) / 8) (aC cs (4 * i + b)) < aPw t h (aC cs (4 * i) / 8) (aC cs (4 * i + 3)) then 3 else b) → aBi t h cs i = b3) → w = nI ((lr + b) % 4) → s.toInt = aPw t h (aC cs (4 * i) / 8) (aC cs (4 * i + b)) → mRun (mSx g) (f_X2_winnerOf g) P (24, [some (.inr (some 29)), some (.inl (nI i)), some (.inl t), some (.inl (nI h)), some (.inl (nI (aC cs (4 * i) / 8))), some (.inl s), some (.inl w), some (.inl (nI 3)), m8, m9, m10], [], M) := fun b s w m8 m9 m10 hb hw hs => by
    refine wo_step_29 g M P hi hh (by decide) (e1 3 (by omega)).2 hled hlr (a1 3 (by omega)) a2 (by rw [hs]; exact ge b) (fun z s' n8 n9 n10 hs' => ?_) (fun z n8 n9 n10 => ?_)
    · exact fin 3 _ _ _ _ _ (hb 3 (by rw [if_pos (by rw [← hs]; exact z)])) rfl
    · exact fin b _ _ _ _ _ (hb b (by rw [if_neg (by rw [← hs]; exact z)])) hw
  have s2 : ∀ (b : Nat) (s w : Int32) (m8 m9 m10 : Option mV), b = (if aPw t h (aC cs (4 * i) / 8) (aC cs (4 * i + 0)) < aPw t h (aC cs (4 * i) / 8) (aC cs (4 * i + 1)) then 1 else 0) → w = nI ((lr + b) % 4) → s.toInt = aPw t h (aC cs (4 * i) / 8) (aC cs (4 * i + b)) → mRun (mSx g) (f_X2_winnerOf g) P (24, [some (.inr (some 29)), some (.inl (nI i)), some (.inl t), some (.inl (nI h)), some (.inl (nI (aC cs (4 * i) / 8))), some (.inl s), some (.inl w), some (.inl (nI 2)), m8, m9, m10], [], M) := fun b s w m8 m9 m10 hb hw hs => by
    refine wo_step_29 g M P hi hh (by decide) (e1 2 (by omega)).2 hled hlr (a1 2 (by omega)) a2 (by rw [hs]; exact ge b) (fun z s' n8 n9 n10 hs' => ?_) (fun z n8 n9 n10 => ?_)
    · exact s3 2 _ _ _ _ _ (fun b3 h3 => B b 2 b3 hb (by rw [if_pos (by rw [← hs]; exact z)]) h3) rfl hs'
    · exact s3 b _ _ _ _ _ (fun b3 h3 => B b b b3 hb (by rw [if_neg (by rw [← hs]; exact z)]) h3) hw hs
  have s1 : ∀ (s w : Int32) (m8 m9 m10 : Option mV), w = nI ((lr + 0) % 4) → s.toInt = aPw t h (aC cs (4 * i) / 8) (aC cs (4 * i + 0)) → mRun (mSx g) (f_X2_winnerOf g) P (24, [some (.inr (some 29)), some (.inl (nI i)), some (.inl t), some (.inl (nI h)), some (.inl (nI (aC cs (4 * i) / 8))), some (.inl s), some (.inl w), some (.inl (nI 1)), m8, m9, m10], [], M) := fun s w m8 m9 m10 hw hs => by
    refine wo_step_29 g M P hi hh (by decide) (e1 1 (by omega)).2 hled hlr (a1 1 (by omega)) a2 (by rw [hs]; exact ge 0) (fun z s' n8 n9 n10 hs' => ?_) (fun z n8 n9 n10 => ?_)
    · exact s2 1 _ _ _ _ _ (by rw [if_pos (by rw [← hs]; exact z)]) rfl hs'
    · exact s2 0 _ _ _ _ _ (by rw [if_neg (by rw [← hs]; exact z)]) hw hs
  refine wo_step_29 g M P hi hh (by decide) (e1 0 (by omega)).2 hled hlr (a1 0 (by omega)) a2 (by rw [m1]; omega) (fun z s' n8 n9 n10 hs' => s1 _ _ _ _ _ rfl hs') (fun z => absurd (by rw [m1]; exact aPw_0) z)
theorem run_X2_winnerOf : mRunOf 11 t_X2_winnerOf f_X2_winnerOf := fun g as M P hT => by
  obtain ⟨⟨c, i, t, h, cs, lr⟩, ⟨h1, rfl, h3, h4, h5, h6, h7, h8⟩, hP⟩ := hT
  refine ⟨Nat.le_of_ble_eq_true rfl, ?_⟩
  dsimp only at h1 h3 h4 h5 h6 h7 h8
  rcases pl_two h1 with rfl | rfl
  · exact wo_run_16 g M P h3 h4 h6 h5 h7 h8 (hP _ _ ⟨rfl, rfl⟩)
  · exact wo_run_29 g M P h3 h4 h6 h5 h7 h8 (hP _ _ ⟨rfl, rfl⟩)
theorem ok_X2_winnerOf : mOK yX2_winnerOf cX2_winnerOf 11 (some .int) 2 t_X2_winnerOf := mOK.of f_X2_winnerOf (by decide) (fun _ => rfl) (fun g => mCodeOK kk_X2_winnerOf) (fun g => mFldL fk_RX2 rfl) (fun g idx v h => by cases h) (fun g idx v h => by cases h) (mCalL (l := l_X2_winnerOf) (List.forall_mem_cons.mpr ⟨mSite.SN (idx := 56) ok_X7_at (by decide) (by decide) wc_X7_at wm_RX2_56 wt_X7_at wn_RX7 wd_X7_at, List.forall_mem_cons.mpr ⟨mSite.SN (idx := 89) ok_X7_strengthOf (by decide) (by decide) wc_X7_strengthOf wm_RX2_89 wt_X7_strengthOf wn_RX7 wd_X7_strengthOf, fun _ h => absurd h List.not_mem_nil⟩⟩) (fun _ => rfl)) run_X2_winnerOf

