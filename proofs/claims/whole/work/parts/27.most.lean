/-! ===== CLASS TrickHouse: the most tricks that a side can still have ===== -/
/-- the best of f over a list: the greatest (b) or the least -/
def fS (b : Bool) (f : Nat → Nat) : List Nat → Nat → Nat
  | [], e => e
  | c :: l, e => fS b f l (bif b then max e (f c) else min e (f c))
theorem fS_bd {b : Bool} {f : Nat → Nat} {A B : Nat} : ∀ {l : List Nat} {e : Nat}, (∀ c ∈ l, A ≤ f c ∧ f c ≤ B) → A ≤ e ∧ e ≤ B → A ≤ fS b f l e ∧ fS b f l e ≤ B
  | [], _, _, h => h
  | c :: l, e, hf, h => by
    have hc := hf c List.mem_cons_self
    refine fS_bd (l := l) (fun d hd => hf d (List.mem_cons_of_mem _ hd)) ?_
    cases b
    · show A ≤ min e (f c) ∧ min e (f c) ≤ B
      omega
    · show A ≤ max e (f c) ∧ max e (f c) ≤ B
      omega
theorem fS_stop {b : Bool} {f : Nat → Nat} {A B : Nat} : ∀ {l : List Nat}, (∀ c ∈ l, A ≤ f c ∧ f c ≤ B) → fS b f l (bif b then B else A) = bif b then B else A
  | [], _ => rfl
  | c :: l, hf => by
    have hc := hf c List.mem_cons_self
    have h := fS_stop (b := b) (l := l) (fun d hd => hf d (List.mem_cons_of_mem _ hd))
    rw [fS]
    cases b
    · show fS false f l (min A (f c)) = A
      rw [show min A (f c) = A by omega]
      exact h
    · show fS true f l (max B (f c)) = B
      rw [show max B (f c) = B by omega]
      exact h
theorem fS_congr {b : Bool} {f h : Nat → Nat} : ∀ {l : List Nat} {e : Nat}, (∀ c ∈ l, f c = h c) → fS b f l e = fS b h l e
  | [], _, _ => rfl
  | c :: l, e, hf => by
    rw [fS, fS, hf c List.mem_cons_self]
    exact fS_congr (fun d hd => hf d (List.mem_cons_of_mem _ hd))
/-- how many tricks of the side s at the end, after the cards cs, n cards being left -/
def aV (x : aX) (dl : Nat → Int32) (s : Nat) : Nat → List Nat → Nat
  | 0, cs => aWn x cs s (cs.length / 4)
  | n + 1, cs => fS (decide (aTn x cs cs.length % 2 = s)) (fun c => aV x dl s n (cs ++ [c])) (bts (ub (aAl x dl cs)) 32) (bif decide (aTn x cs cs.length % 2 = s) then aWn x cs s (cs.length / 4) else aWn x cs s (cs.length / 4) + (8 - cs.length / 4))
theorem al_ok {x : aX} {dl : Nat → Int32} {cs : List Nat} {c : Nat} (hok : aOk x dl cs) (hl : cs.length < 32) (hc : c < 32) (hb : bt (aAl x dl cs) c = true) : aOk x dl (cs ++ [c]) := hok.add hl hc (aAl_sub hb)
theorem aWn_step {x : aX} {cs : List Nat} {c s : Nat} (hl : cs.length < 32) : aWn x cs s (cs.length / 4) ≤ aWn x (cs ++ [c]) s ((cs ++ [c]).length / 4) ∧ aWn x (cs ++ [c]) s ((cs ++ [c]).length / 4) + (8 - (cs ++ [c]).length / 4) ≤ aWn x cs s (cs.length / 4) + (8 - cs.length / 4) := by
  rw [List.length_append, List.length_singleton]
  by_cases h : (cs.length + 1) / 4 = cs.length / 4
  · rw [h, aWn_old (by omega)]
    exact ⟨Nat.le_refl _, Nat.le_refl _⟩
  · rw [show (cs.length + 1) / 4 = cs.length / 4 + 1 by omega, aWn, aWn_old (by omega)]
    generalize aWn x cs s (cs.length / 4) = W
    split <;> omega
theorem aV_bd {x : aX} {dl : Nat → Int32} {s : Nat} : ∀ (n : Nat) (cs : List Nat), n + cs.length = 32 → aOk x dl cs → aWn x cs s (cs.length / 4) ≤ aV x dl s n cs ∧ aV x dl s n cs ≤ aWn x cs s (cs.length / 4) + (8 - cs.length / 4)
  | 0, cs, _, _ => ⟨Nat.le_refl _, Nat.le_add_right _ _⟩
  | n + 1, cs, hn, hok => by
    rw [aV]
    refine fS_bd (fun c hc => ?_) ?_
    · have h := bts_lt hc
      have h2 := aV_bd (s := s) n (cs ++ [c]) (by rw [List.length_append, List.length_singleton]; omega) (al_ok hok (by omega) h.1 h.2)
      have h3 := aWn_step (x := x) (cs := cs) (c := c) (s := s) (by omega)
      exact ⟨Nat.le_trans h3.1 h2.1, Nat.le_trans h2.2 h3.2⟩
    · cases decide (aTn x cs cs.length % 2 = s)
      · exact ⟨Nat.le_add_right _ _, Nat.le_refl _⟩
      · exact ⟨Nat.le_refl _, Nat.le_add_right _ _⟩
theorem FrP.trans {p : Nat} {M M1 M2 : mM} (h : FrP p M M1) (k : FrP p M1 M2) : FrP p M M2 := fun c hc => (k c hc).trans (h c hc)
theorem FrP.refl {p : Nat} {M : mM} : FrP p M M := fun _ _ => rfl
def pre_X7_mostMade (r : Nat) (q : Nat × aX × (Nat → Int32) × List Nat) (as : List mV) (M : mM) : Prop := ∃ d, d + r = 13 ∧ d ≤ 12 ∧ as = [.inr (some 29), .inl (nI q.1), .inl (nI d)] ∧ q.1 < 2 ∧ RpP 29 M q.2.1 q.2.2.1 0 0 q.2.2.2 ∧ aOk q.2.1 q.2.2.1 q.2.2.2 ∧ 20 + d ≤ q.2.2.2.length
def post_X7_mostMade (_ : Nat) (q : Nat × aX × (Nat → Int32) × List Nat) (_ : List mV) (M : mM) (v : Int32) (M' : mM) : Prop := v = nI (aV q.2.1 q.2.2.1 q.1 (32 - q.2.2.2.length) q.2.2.2) ∧ RpP 29 M' q.2.1 q.2.2.1 0 0 q.2.2.2 ∧ FrP 29 M M'
abbrev t_X7_mostMade (r : Nat) : mG → mT := mRi (pre_X7_mostMade r) (post_X7_mostMade r)
theorem mo_X7_mostMade (r : Nat) : mMn (t_X7_mostMade r) := mRi_mono
def k_X7_mostMade : List (Nat × mI) := [(0, .aload_n 0, 1, 0, 0, []),
  (1, .invokevirtual 152, 3, 0, 0, []),
  (4, .istore_n 3, 1, 3, 0, []),
  (5, .aload_n 0, 1, 0, 0, []),
  (6, .getfield 352, 3, 0, 0, []),
  (9, .iload_n 1, 1, 1, 0, []),
  (10, .invokestatic 107, 3, 0, 0, []),
  (13, .istore 4, 2, 4, 0, []),
  (15, .iload_n 3, 1, 3, 0, []),
  (16, .ifCond .eq 9, 3, 25, 0, []),
  (19, .iload_n 2, 1, 2, 0, []),
  (20, .bipush 12, 2, 0, nI 12, []),
  (22, .if_icmp .lt 6, 3, 28, 0, []),
  (25, .iload 4, 2, 4, 0, []),
  (27, .ireturn, 1, 0, 0, []),
  (28, .aload_n 0, 1, 0, 0, []),
  (29, .getfield 149, 3, 0, 0, []),
  (32, .iconst 1, 1, 0, nI 1, []),
  (33, .iand, 1, 0, 0, []),
  (34, .iload_n 1, 1, 1, 0, []),
  (35, .if_icmp .ne 7, 3, 42, 0, []),
  (38, .iconst 1, 1, 0, nI 1, []),
  (39, .goto 4, 3, 43, 0, []),
  (42, .iconst 0, 1, 0, nI 0, []),
  (43, .istore 5, 2, 5, 0, []),
  (45, .iload 4, 2, 4, 0, []),
  (47, .aload_n 0, 1, 0, 0, []),
  (48, .invokevirtual 358, 3, 0, 0, []),
  (51, .iadd, 1, 0, 0, []),
  (52, .istore 6, 2, 6, 0, []),
  (54, .iload 5, 2, 5, 0, []),
  (56, .ifCond .eq 8, 3, 64, 0, []),
  (59, .iload 4, 2, 4, 0, []),
  (61, .goto 5, 3, 66, 0, []),
  (64, .iload 6, 2, 6, 0, []),
  (66, .istore 7, 2, 7, 0, []),
  (68, .iload 5, 2, 5, 0, []),
  (70, .ifCond .eq 8, 3, 78, 0, []),
  (73, .iload 6, 2, 6, 0, []),
  (75, .goto 5, 3, 80, 0, []),
  (78, .iload 4, 2, 4, 0, []),
  (80, .istore 8, 2, 8, 0, []),
  (82, .iload_n 3, 1, 3, 0, []),
  (83, .invokestatic 231, 3, 0, 0, []),
  (86, .istore 9, 2, 9, 0, []),
  (88, .iload 9, 2, 9, 0, []),
  (90, .ifCond .le 72, 3, 162, 0, []),
  (93, .iload 7, 2, 7, 0, []),
  (95, .iload 8, 2, 8, 0, []),
  (97, .if_icmp .eq 65, 3, 162, 0, []),
  (100, .iload_n 3, 1, 3, 0, []),
  (101, .invokestatic 236, 3, 0, 0, []),
  (104, .istore 10, 2, 10, 0, []),
  (106, .iload_n 3, 1, 3, 0, []),
  (107, .iload_n 3, 1, 3, 0, []),
  (108, .iconst 1, 1, 0, nI 1, []),
  (109, .isub, 1, 0, 0, []),
  (110, .iand, 1, 0, 0, []),
  (111, .istore_n 3, 1, 3, 0, []),
  (112, .aload_n 0, 1, 0, 0, []),
  (113, .iload 10, 2, 10, 0, []),
  (115, .invokevirtual 355, 3, 0, 0, []),
  (118, .aload_n 0, 1, 0, 0, []),
  (119, .iload_n 1, 1, 1, 0, []),
  (120, .iload_n 2, 1, 2, 0, []),
  (121, .iconst 1, 1, 0, nI 1, []),
  (122, .iadd, 1, 0, 0, []),
  (123, .invokestatic 348, 3, 0, 0, []),
  (126, .istore 11, 2, 11, 0, []),
  (128, .aload_n 0, 1, 0, 0, []),
  (129, .invokevirtual 361, 3, 0, 0, []),
  (132, .iload 5, 2, 5, 0, []),
  (134, .ifCond .eq 13, 3, 147, 0, []),
  (137, .iload 7, 2, 7, 0, []),
  (139, .iload 11, 2, 11, 0, []),
  (141, .invokestatic 364, 3, 0, 0, []),
  (144, .goto 10, 3, 154, 0, []),
  (147, .iload 7, 2, 7, 0, []),
  (149, .iload 11, 2, 11, 0, []),
  (151, .invokestatic 369, 3, 0, 0, []),
  (154, .istore 7, 2, 7, 0, []),
  (156, .iinc 9 (-1), 3, 9, -1, []),
  (159, .goto (-71), 3, 88, 0, []),
  (162, .iload 7, 2, 7, 0, []),
  (164, .ireturn, 1, 0, 0, [])]
theorem kk_X7_mostMade : (k_X7_mostMade.all fun e => mChk cX7_mostMade e.1 e.2) = true := by decide +kernel
def l_X7_mostMade (r : Nat) : List (Nat × Nat × (mG → mT)) := [(3 * 152, 0 + 1, t_X2_allowed), (3 * 107 + 1, 2, t_X7_at), (3 * 358, 0 + 1, t_X2_left), (3 * 231 + 1, 1, t_J6_bitCount_0f7a4), (3 * 236 + 1, 1, t_X7_lowestCard), (3 * 355, 1 + 1, t_X2_lay), (3 * 348 + 1, 3, (t_X7_mostMade r)), (3 * 361, 0 + 1, t_X2_lift), (3 * 364 + 1, 2, tMax), (3 * 369 + 1, 2, tMin)]
def f_X7_mostMade (r : Nat) (g : mG) : mF := (mLk k_X7_mostMade, mLk fl_RX7, mLk ((l_X7_mostMade r).map fun e => (e.1, e.2.1, e.2.2 g)), mLk ([] : List (Nat × mV)), mLk ([] : List (Nat × mV)), some .int)
theorem m_X7_mostMade (r : Nat) (g : mG) : mMono (f_X7_mostMade r g) := mMonoL (g := g) (l := l_X7_mostMade r) (List.forall_mem_cons.mpr ⟨mo_X2_allowed, List.forall_mem_cons.mpr ⟨mo_X7_at, List.forall_mem_cons.mpr ⟨mo_X2_left, List.forall_mem_cons.mpr ⟨mo_J6_bitCount_0f7a4, List.forall_mem_cons.mpr ⟨mo_X7_lowestCard, List.forall_mem_cons.mpr ⟨mo_X2_lay, List.forall_mem_cons.mpr ⟨(mo_X7_mostMade r), List.forall_mem_cons.mpr ⟨mo_X2_lift, List.forall_mem_cons.mpr ⟨tMax_mono, List.forall_mem_cons.mpr ⟨tMin_mono, fun _ h => absurd h List.not_mem_nil⟩⟩⟩⟩⟩⟩⟩⟩⟩⟩) rfl

theorem v_mm_0 (r : Nat) (g : mG) (M : mM) (P : mP) (y z : Int32)
    (h : ∃ x1 : Nat × aP, pre_X2_allowed x1 [.inr (some 29)] M ∧ ∀ (r3 : Int32) (M2 : mM), post_X2_allowed x1 [.inr (some 29)] M r3 M2 → ((r3 = 0 → P (some (.inl (aAt (M2 36) 2 y))) M2) ∧ (¬ r3 = 0 → (z < (nI 12) → (¬ ((M2 29 8) &&& (nI 1)) = y → mRun (mSx g) (f_X7_mostMade r g) P (43, [some (.inr (some 29)), some (.inl y), some (.inl z), some (.inl r3), some (.inl (aAt (M2 36) 2 y)), none, none, none, none, none, none, none], [.inl (nI 0)], M2)) ∧ (¬ (¬ ((M2 29 8) &&& (nI 1)) = y) → mRun (mSx g) (f_X7_mostMade r g) P (43, [some (.inr (some 29)), some (.inl y), some (.inl z), some (.inl r3), some (.inl (aAt (M2 36) 2 y)), none, none, none, none, none, none, none], [.inl (nI 1)], M2))) ∧ (¬ z < (nI 12) → P (some (.inl (aAt (M2 36) 2 y))) M2)))) :
    mRun (mSx g) (f_X7_mostMade r g) P (0, [some (.inr (some 29)), some (.inl y), some (.inl z), none, none, none, none, none, none, none, none, none], [], M) := mRun.vc (m_X7_mostMade r g) [43] 22 h

theorem v_mm_43 (r : Nat) (g : mG) (M : mM) (P : mP) (y z u w q : Int32)
    (h : ¬ (nI 4) = 0 ∧ ((((q = 0 → (q = 0 → mRun (mSx g) (f_X7_mostMade r g) P (88, [some (.inr (some 29)), some (.inl y), some (.inl z), some (.inl u), some (.inl w), some (.inl q), some (.inl (w + ((nI 8) - ((M 29 7) / (nI 4))))), some (.inl (w + ((nI 8) - ((M 29 7) / (nI 4))))), some (.inl w), some (.inl (popC u)), none, none], [], M)) ∧ (¬ q = 0 → mRun (mSx g) (f_X7_mostMade r g) P (88, [some (.inr (some 29)), some (.inl y), some (.inl z), some (.inl u), some (.inl w), some (.inl q), some (.inl (w + ((nI 8) - ((M 29 7) / (nI 4))))), some (.inl (w + ((nI 8) - ((M 29 7) / (nI 4))))), some (.inl (w + ((nI 8) - ((M 29 7) / (nI 4))))), some (.inl (popC u)), none, none], [], M))) ∧ (¬ q = 0 → (q = 0 → mRun (mSx g) (f_X7_mostMade r g) P (88, [some (.inr (some 29)), some (.inl y), some (.inl z), some (.inl u), some (.inl w), some (.inl q), some (.inl (w + ((nI 8) - ((M 29 7) / (nI 4))))), some (.inl w), some (.inl w), some (.inl (popC u)), none, none], [], M)) ∧ (¬ q = 0 → mRun (mSx g) (f_X7_mostMade r g) P (88, [some (.inr (some 29)), some (.inl y), some (.inl z), some (.inl u), some (.inl w), some (.inl q), some (.inl (w + ((nI 8) - ((M 29 7) / (nI 4))))), some (.inl w), some (.inl (w + ((nI 8) - ((M 29 7) / (nI 4))))), some (.inl (popC u)), none, none], [], M))))))) :
    mRun (mSx g) (f_X7_mostMade r g) P (43, [some (.inr (some 29)), some (.inl y), some (.inl z), some (.inl u), some (.inl w), none, none, none, none, none, none, none], [.inl q], M) := mRun.vc (m_X7_mostMade r g) [88] 20 h

theorem v_mm_88 (r : Nat) (g : mG) (M : mM) (P : mP) (y z u w q m e d k : Int32) (l10 l11 : Option mV)
    (h : (k ≤ 0 → P (some (.inl e)) M) ∧ (¬ k ≤ 0 → (e = d → P (some (.inl e)) M) ∧ (¬ e = d → ∃ x1 : Nat × aP × Nat, pre_X2_lay x1 [.inr (some 29), .inl (fLow u)] M ∧ ∀ M2 : mM, post_X2_lay x1 [.inr (some 29), .inl (fLow u)] M M2 → (∃ x3 : Nat × aX × (Nat → Int32) × List Nat, pre_X7_mostMade r x3 [.inr (some 29), .inl y, .inl (z + (nI 1))] M2 ∧ ∀ (r5 : Int32) (M4 : mM), post_X7_mostMade r x3 [.inr (some 29), .inl y, .inl (z + (nI 1))] M2 r5 M4 → (∃ x6 : Nat × aP × Nat, pre_X2_lift x6 [.inr (some 29)] M4 ∧ ∀ M7 : mM, post_X2_lift x6 [.inr (some 29)] M4 M7 → ((q = 0 → mRun (mSx g) (f_X7_mostMade r g) P (88, [some (.inr (some 29)), some (.inl y), some (.inl z), some (.inl (u &&& (u - (nI 1)))), some (.inl w), some (.inl q), some (.inl m), some (.inl (if r5 < e then r5 else e)), some (.inl d), some (.inl (k + (-1))), some (.inl (fLow u)), some (.inl r5)], [], M7)) ∧ (¬ q = 0 → mRun (mSx g) (f_X7_mostMade r g) P (88, [some (.inr (some 29)), some (.inl y), some (.inl z), some (.inl (u &&& (u - (nI 1)))), some (.inl w), some (.inl q), some (.inl m), some (.inl (if e < r5 then r5 else e)), some (.inl d), some (.inl (k + (-1))), some (.inl (fLow u)), some (.inl r5)], [], M7)))))))) :
    mRun (mSx g) (f_X7_mostMade r g) P (88, [some (.inr (some 29)), some (.inl y), some (.inl z), some (.inl u), some (.inl w), some (.inl q), some (.inl m), some (.inl e), some (.inl d), some (.inl k), l10, l11], [], M) := mRun.vc (m_X7_mostMade r g) [88] 36 h

theorem nI_max {a b : Nat} (ha : a < 100) (hb : b < 100) : (if nI a < nI b then nI b else nI a) = nI (max a b) := by
  split
  · rename_i h
    simp (disch := omega) only [fa_lt, nI_toInt] at h
    rw [show max a b = b by omega]
  · rename_i h
    simp (disch := omega) only [fa_lt, nI_toInt] at h
    rw [show max a b = a by omega]
theorem nI_min {a b : Nat} (ha : a < 100) (hb : b < 100) : (if nI b < nI a then nI b else nI a) = nI (min a b) := by
  split
  · rename_i h
    simp (disch := omega) only [fa_lt, nI_toInt] at h
    rw [show min a b = b by omega]
  · rename_i h
    simp (disch := omega) only [fa_lt, nI_toInt] at h
    rw [show min a b = a by omega]
theorem mm_loop (r : Nat) (g : mG) (P : mP) (M0 : mM) (x : aX) (dl : Nat → Int32) (s d : Nat) (cs : List Nat) (hs : s < 2) (hd : d + (r + 1) = 13) (hdl : 20 + d ≤ cs.length) (hn : cs.length < 32) (hok : aOk x dl cs) (b : Bool) (w m : Int32)
    (hP : ∀ (v : Nat) (M' : mM), v = aV x dl s (32 - cs.length) cs → RpP 29 M' x dl 0 0 cs → FrP 29 M0 M' → P (some (.inl (nI v))) M') :
    ∀ (l : List Nat) (u : Int32) (e : Nat) (M : mM) (l10 l11 : Option mV), bts (ub u) 32 = l → l.length ≤ 32 → (∀ c ∈ l, c < 32 ∧ bt (aAl x dl cs) c = true) → (aWn x cs s (cs.length / 4) ≤ e ∧ e ≤ aWn x cs s (cs.length / 4) + (8 - cs.length / 4)) → fS b (fun c => aV x dl s (31 - cs.length) (cs ++ [c])) l e = aV x dl s (32 - cs.length) cs → RpP 29 M x dl 0 0 cs → FrP 29 M0 M →
    mRun (mSx g) (f_X7_mostMade r g) P (88, [some (.inr (some 29)), some (.inl (nI s)), some (.inl (nI d)), some (.inl u), some (.inl w), some (.inl (bif b then nI 1 else nI 0)), some (.inl m), some (.inl (nI e)), some (.inl (nI (bif b then aWn x cs s (cs.length / 4) + (8 - cs.length / 4) else aWn x cs s (cs.length / 4)))), some (.inl (nI l.length)), l10, l11], [], M) := by
  intro l
  induction l with
  | nil =>
    intro u e M l10 l11 _ _ _ _ hv hR hF
    exact v_mm_88 r g M P _ _ _ _ _ _ _ _ _ _ _ ⟨fun _ => hP e M hv hR hF, fun z => absurd (Int32.le_refl 0) z⟩
  | cons c l ih =>
    intro u e M l10 l11 hu hll hl he hv hR hF
    have hW := aWn_le (x := x) (cs := cs) (s := s) (cs.length / 4)
    have hbd : ∀ k ∈ c :: l, aWn x cs s (cs.length / 4) ≤ aV x dl s (31 - cs.length) (cs ++ [k]) ∧ aV x dl s (31 - cs.length) (cs ++ [k]) ≤ aWn x cs s (cs.length / 4) + (8 - cs.length / 4) := fun k hk => by
      have h := hl k hk
      have h2 := aV_bd (x := x) (dl := dl) (s := s) (31 - cs.length) (cs ++ [k]) (by rw [List.length_append, List.length_singleton]; omega) (al_ok hok (by omega) h.1 h.2)
      have h3 := aWn_step (x := x) (cs := cs) (c := k) (s := s) (by omega)
      exact ⟨Nat.le_trans h3.1 h2.1, Nat.le_trans h2.2 h3.2⟩
    have hc := hl c List.mem_cons_self
    have hne : u ≠ 0 := fun z => by
      rw [z, bts_zero] at hu
      exact absurd hu (List.cons_ne_nil c l).symm
    obtain ⟨k, -, hk1, hk2, -⟩ := low_of hne
    rw [hu] at hk2
    generalize hu2 : bts (ub (u &&& (u - nI 1))) 32 = l2 at hk2
    obtain ⟨h1, h2⟩ := List.cons.inj hk2
    rw [← h1] at hk1
    rw [← h2] at hu2
    have hok2 := al_ok hok hn hc.1 hc.2
    have hvb := hbd c List.mem_cons_self
    refine v_mm_88 r g M P _ _ _ _ _ _ _ _ _ _ _ ⟨fun z => ?_, fun _ => ⟨fun z => ?_, fun _ => ?_⟩⟩
    · rw [List.length_cons] at z hll
      simp (disch := omega) only [fa_le, nI_toInt, Int32.toInt_zero] at z
      omega
    · have z := (nI_eq (by omega) (by cases b <;> simp <;> omega)).mp z
      refine hP e M ?_ hR hF
      rw [← hv, z]
      exact (fS_stop hbd).symm
    · rw [hk1]
      refine ⟨(29, (x, dl, 0, 0, cs), c), ⟨rfl, rfl, hR, hok, hn, hc.1, aAl_sub hc.2⟩, fun M2 h2 => ?_⟩
      refine ⟨(s, x, dl, cs ++ [c]), ⟨d + 1, by omega, by omega, by rw [nI_add], hs, h2.1, hok2, by rw [List.length_append, List.length_singleton]; omega⟩, fun r5 M4 h4 => ?_⟩
      refine ⟨(29, (x, dl, 0, 0, cs), c), ⟨rfl, rfl, h4.2.1, hok2⟩, fun M7 h7 => ?_⟩
      have hF7 : FrP 29 M0 M7 := ((hF.trans h2.2).trans h4.2.2).trans h7.2
      have h41 := h4.1
      dsimp only at h41
      rw [show 32 - (cs ++ [c]).length = 31 - cs.length by rw [List.length_append, List.length_singleton]; omega] at h41
      rw [h41, show nI (c :: l).length + (-1) = nI l.length by rw [List.length_cons, nI_s1 (by omega)]; rfl]
      cases b
      · rw [fS, cond_false] at hv
        refine ⟨fun _ => ?_, fun z => absurd rfl z⟩
        rw [nI_min (by omega) (by omega)]
        exact ih (u &&& (u - nI 1)) _ M7 _ _ hu2 (by rw [List.length_cons] at hll; omega) (fun c hc => hl c (List.mem_cons_of_mem _ hc)) (by omega) hv h7.1 hF7
      · rw [fS, cond_true] at hv
        refine ⟨fun z => absurd z (by decide), fun _ => ?_⟩
        rw [nI_max (by omega) (by omega)]
        exact ih (u &&& (u - nI 1)) _ M7 _ _ hu2 (by rw [List.length_cons] at hll; omega) (fun c hc => hl c (List.mem_cons_of_mem _ hc)) (by omega) hv h7.1 hF7
theorem mm_run (r : Nat) (g : mG) (P : mP) (M : mM) (x : aX) (dl : Nat → Int32) (s d : Nat) (cs : List Nat) (hs : s < 2) (hd : d + (r + 1) = 13) (hdl : 20 + d ≤ cs.length) (hR : RpP 29 M x dl 0 0 cs) (hok : aOk x dl cs)
    (hP : ∀ (v : Nat) (M' : mM), v = aV x dl s (32 - cs.length) cs → RpP 29 M' x dl 0 0 cs → FrP 29 M M' → P (some (.inl (nI v))) M') :
    mRun (mSx g) (f_X7_mostMade r g) P (0, [some (.inr (some 29)), some (.inl (nI s)), some (.inl (nI d)), none, none, none, none, none, none, none, none, none], [], M) := by
  obtain ⟨r1, r2⟩ := hR.1
  have hlen := hok.2.2.1
  have hW := aWn_le (x := x) (cs := cs) (s := s) (cs.length / 4)
  have hw : aAt (M 36) 2 (nI s) = nI (aWn x cs s (cs.length / 4)) := by
    rw [aAt_in hs (by decide)]
    obtain ⟨-, -, -, -, -, -, h0, h1⟩ := hR
    rcases (by omega : s = 0 ∨ s = 1) with rfl | rfl
    · exact h0.trans (Int32.add_zero _)
    · exact h1.trans (Int32.add_zero _)
  refine v_mm_0 r g M P _ _ ⟨(29, (x, dl, 0, 0, cs)), ⟨rfl, rfl, hR, hok⟩, fun r3 M2 h3 => ?_⟩
  obtain ⟨rfl, rfl⟩ := h3
  dsimp only
  rw [hw]
  refine ⟨fun z => ?_, fun z => ?_⟩
  · refine hP _ _ ?_ hR FrP.refl
    have : cs.length = 32 := by
      rcases Nat.lt_or_ge cs.length 32 with h | h
      · exact absurd z (aAl_ne hok h)
      · omega
    rw [this, Nat.sub_self, aV, this]
  · have hn : cs.length < 32 := by
      rcases Nat.lt_or_ge cs.length 32 with h | h
      · exact h
      · exact absurd (aAl_0 hok (by omega)) z
    refine ⟨fun _ => ?_, fun z => absurd (by simp (disch := omega) only [fa_lt, nI_toInt]; omega) z⟩
    have e8 : (M2 29 8 &&& nI 1 = nI s) ↔ aTn x cs cs.length % 2 = s := by
      rw [r2.1, nI_and1 _ (by have := aTn_lt (x := x) (cs := cs) (j := cs.length); omega)]
      exact nI_eq (by omega) (by omega)
    have e7 : nI (aWn x cs s (cs.length / 4)) + (nI 8 - M2 29 7 / nI 4) = nI (aWn x cs s (cs.length / 4) + (8 - cs.length / 4)) := by
      rw [r1, nI_div4 (by omega), pk_sub (by omega), nI_add]
    have hv : ∀ b, decide (aTn x cs cs.length % 2 = s) = b → fS b (fun c => aV x dl s (31 - cs.length) (cs ++ [c])) (bts (ub (aAl x dl cs)) 32) (bif b then aWn x cs s (cs.length / 4) else aWn x cs s (cs.length / 4) + (8 - cs.length / 4)) = aV x dl s (32 - cs.length) cs := fun b hb => by
      rw [show 32 - cs.length = 31 - cs.length + 1 by omega, aV, hb]
    rw [e8]
    refine ⟨fun h => ?_, fun h => ?_⟩
    · refine v_mm_43 r g M2 P _ _ _ _ _ ⟨n4, ⟨fun _ => ⟨fun _ => ?_, fun z => absurd rfl z⟩, fun z => absurd rfl z⟩⟩
      rw [e7, pop_len]
      exact mm_loop r g P M2 x dl s d cs hs hd hdl hn hok false _ _ hP _ _ _ M2 _ _ rfl (bts_32 _) (fun c hc => bts_lt hc) (by omega) (hv false (decide_eq_false h)) hR FrP.refl
    · refine v_mm_43 r g M2 P _ _ _ _ _ ⟨n4, ⟨fun z => absurd z (by decide), fun _ => ⟨fun z => absurd z (by decide), fun _ => ?_⟩⟩⟩
      rw [e7, pop_len]
      exact mm_loop r g P M2 x dl s d cs hs hd hdl hn hok true _ _ hP _ _ _ M2 _ _ rfl (bts_32 _) (fun c hc => bts_lt hc) (by omega) (hv true (decide_eq_true (Classical.not_not.mp h))) hR FrP.refl
theorem run_X7_mostMade (r : Nat) : mRunOf 12 (t_X7_mostMade (r + 1)) (f_X7_mostMade r) := fun g as M P hT => by
  obtain ⟨⟨s, x, dl, cs⟩, ⟨d, h1, h2, rfl, h3, h4, h5, h6⟩, hP⟩ := hT
  exact ⟨Nat.le_of_ble_eq_true rfl, mm_run r g P M x dl s d cs h3 h1 h6 h4 h5 (fun v M' k1 k2 k3 => hP _ _ ⟨congrArg nI k1, k2, k3⟩)⟩
theorem ok_X7_mostMade : ∀ r, mOK yX7_mostMade cX7_mostMade 12 (some .int) (4 + r) (t_X7_mostMade r)
  | 0 => fun l g sz as M P hT => by
    obtain ⟨q, ⟨d, h1, h2, -⟩, -⟩ := hT
    omega
  | r + 1 => mOK.of (f_X7_mostMade r) (by decide) (fun _ => rfl) (fun g => mCodeOK kk_X7_mostMade) (fun g => mFldL fk_RX7 rfl) (fun g idx v h => by cases h) (fun g idx v h => by cases h) (mCalL (l := l_X7_mostMade r) (List.forall_mem_cons.mpr ⟨mSite.V (idx := 152) ok_X2_allowed (by omega) (by decide) rv_X2_allowed wc_X2_allowed wk_RX7_152 wi_X2_allowed wl_X2_allowed wn_RX2 wd_X2_allowed, List.forall_mem_cons.mpr ⟨mSite.S (idx := 107) ok_X7_at (by omega) (by decide) wc_X7_at wk_RX7_107 wt_X7_at wn_RX7 wd_X7_at, List.forall_mem_cons.mpr ⟨mSite.V (idx := 358) ok_X2_left (by omega) (by decide) rv_X2_left wc_X2_left wk_RX7_358 wi_X2_left wl_X2_left wn_RX2 wd_X2_left, List.forall_mem_cons.mpr ⟨mSite.S (idx := 231) ok_J6_bitCount_0f7a4 (by omega) (by decide) wc_J6_bitCount_0f7a4 wk_RX7_231 wt_J6_bitCount_0f7a4 wn_RJ6 wd_J6_bitCount_0f7a4, List.forall_mem_cons.mpr ⟨mSite.S (idx := 236) ok_X7_lowestCard (by omega) (by decide) wc_X7_lowestCard wk_RX7_236 wt_X7_lowestCard wn_RX7 wd_X7_lowestCard, List.forall_mem_cons.mpr ⟨mSite.V (idx := 355) ok_X2_lay (by omega) (by decide) rv_X2_lay wc_X2_lay wk_RX7_355 wi_X2_lay wl_X2_lay wn_RX2 wd_X2_lay, List.forall_mem_cons.mpr ⟨mSite.S (idx := 348) (ok_X7_mostMade r) (by omega) (by decide) wc_X7_mostMade wk_RX7_348 wt_X7_mostMade wn_RX7 wd_X7_mostMade, List.forall_mem_cons.mpr ⟨mSite.V (idx := 361) ok_X2_lift (by omega) (by decide) rv_X2_lift wc_X2_lift wk_RX7_361 wi_X2_lift wl_X2_lift wn_RX2 wd_X2_lift, List.forall_mem_cons.mpr ⟨mSite.max (idx := 364) (by omega) wc_J9_max_7cf53 wk_RX7_364 wt_J9_max_7cf53 wn_RJ9, List.forall_mem_cons.mpr ⟨mSite.min (idx := 369) (by omega) wc_J9_min_7cf53 wk_RX7_369 wt_J9_min_7cf53 wn_RJ9, fun _ h => absurd h List.not_mem_nil⟩⟩⟩⟩⟩⟩⟩⟩⟩⟩) (fun _ => rfl)) (run_X7_mostMade r)
