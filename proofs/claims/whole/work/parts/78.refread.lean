/-! ===== THE REFERENCE: an act is read ===== -/
def RS (M : mM) (t : List Int32) : Nat ⊕ Nat → Prop
  | .inl b => M 50 40 = 1 ∧ M 50 35 = nI b
  | .inr p => LX M t p ∧ p ≤ t.length
def tk (t : List Int32) (s : Nat ⊕ Nat) (k h : Nat) : Nat × (Nat ⊕ Nat) := match s with
  | .inl b => (0, .inl b)
  | .inr p => match lx t p with
    | none => (0, .inl (skip cB t p))
    | some q => if q.1 = k ∧ q.2.1 ≤ h then (q.2.1, .inr q.2.2) else (0, .inl (skip cB t p))
theorem lSu_lt {t : List Int32} {a e s : Nat} (h : lSu t a e = some s) : s < 5 := by
  rw [lSu_at] at h
  split at h
  · cases h; decide
  split at h
  · cases h; decide
  split at h
  · cases h; decide
  split at h
  · cases h; decide
  split at h
  · cases h; decide
  · cases h
theorem lx_lt {t : List Int32} {p : Nat} {q : Nat × Nat × Nat} (hp : p ≤ t.length) (h : lx t p = some q) : q.1 ≤ 3 ∧ q.2.1 < 1000000 ∧ q.2.2 ≤ t.length := by
  have hs := skip_le (f := cB) hp
  have hs2 := skip_le (f := cL) hs.2
  have hs3 := skip_le (f := cD) hs.2
  unfold lx at h
  split at h
  · cases h
    exact ⟨Nat.zero_le _, (by decide : 0 < 1000000), Nat.le_refl _⟩
  split at h
  · split at h
    · rename_i s hsu
      cases h
      have := lSu_lt hsu
      exact ⟨(by decide : 2 ≤ 3), by show s < 1000000; omega, hs2.2⟩
    · cases hw : lWd t (skip cB t p) (skip cL t (skip cB t p)) with
      | none => rw [hw] at h; cases h
      | some w =>
        rw [hw] at h
        cases h
        have : w < 9 := by
          have := fO_lt hw
          omega
        exact ⟨(by decide : 1 ≤ 3), by show w < 1000000; omega, hs2.2⟩
  split at h
  · split at h
    · rename_i h6
      cases h
      have hd := skip_in (f := cD) (t := t) (i := skip cB t p) rfl
      have hv := dV_le (t := t) (a := skip cB t p) (skip cD t (skip cB t p) - skip cB t p) (fun j hj => hd _ (by omega) (by omega))
      have hpw : 10 ^ (skip cD t (skip cB t p) - skip cB t p) ≤ 10 ^ 6 := Nat.pow_le_pow_right (by decide) h6
      exact ⟨Nat.le_refl 3, by show dV t (skip cB t p) (skip cD t (skip cB t p) - skip cB t p) < 1000000; omega, hs3.2⟩
    · cases h
  · cases h
def pre_X8_takes (q : List Int32 × (Nat ⊕ Nat) × Nat × Nat) (as : List mV) (M : mM) : Prop := as = [.inr (some 50), .inl (nI q.2.2.1), .inl (nI q.2.2.2)] ∧ RmTp M q.1 ∧ q.1.length ≤ 40 ∧ (∀ b ∈ q.1, 0 ≤ b.toInt) ∧ RS M q.1 q.2.1 ∧ 0 < q.2.2.1 ∧ q.2.2.1 < 10 ∧ q.2.2.2 < 1000000
def post_X8_takes (q : List Int32 × (Nat ⊕ Nat) × Nat × Nat) (_ : List mV) (M : mM) (v : Int32) (M' : mM) : Prop := v = nI (tk q.1 q.2.1 q.2.2.1 q.2.2.2).1 ∧ RS M' q.1 (tk q.1 q.2.1 q.2.2.1 q.2.2.2).2 ∧ NXF M M'
abbrev t_X8_takes : mG → mT := mRi pre_X8_takes post_X8_takes
theorem mo_X8_takes : mMn t_X8_takes := mRi_mono
theorem rv_X8_takes : mHasR yX8_takes 2 t_X8_takes := by
  intro g as M P hT hl
  obtain ⟨q, ⟨h2, -⟩, -⟩ := hT
  exact ⟨_, _, h2, is_X8 g _ rfl⟩
def k_X8_takes : List (Nat × mI) := [(0, .aload_n 0, 1, 0, 0, []),
  (1, .getfield 277, 3, 0, 0, []),
  (4, .ifCond .ne 19, 3, 23, 0, []),
  (7, .aload_n 0, 1, 0, 0, []),
  (8, .getfield 280, 3, 0, 0, []),
  (11, .iload_n 1, 1, 1, 0, []),
  (12, .if_icmp .ne 11, 3, 23, 0, []),
  (15, .aload_n 0, 1, 0, 0, []),
  (16, .getfield 289, 3, 0, 0, []),
  (19, .iload_n 2, 1, 2, 0, []),
  (20, .if_icmp .le 10, 3, 30, 0, []),
  (23, .aload_n 0, 1, 0, 0, []),
  (24, .iconst 1, 1, 0, nI 1, []),
  (25, .putfield 277, 3, 0, 0, []),
  (28, .iconst 0, 1, 0, nI 0, []),
  (29, .ireturn, 1, 0, 0, []),
  (30, .aload_n 0, 1, 0, 0, []),
  (31, .getfield 289, 3, 0, 0, []),
  (34, .istore_n 3, 1, 3, 0, []),
  (35, .aload_n 0, 1, 0, 0, []),
  (36, .invokevirtual 292, 3, 0, 0, []),
  (39, .iload_n 3, 1, 3, 0, []),
  (40, .ireturn, 1, 0, 0, [])]
theorem kk_X8_takes : (k_X8_takes.all fun e => mChk cX8_takes e.1 e.2) = true := by decide +kernel
def l_X8_takes : List (Nat × Nat × (mG → mT)) := [(3 * 292, 0 + 1, t_X8_next)]
def f_X8_takes (g : mG) : mF := (mLk k_X8_takes, mLk fl_RX8, mLk (l_X8_takes.map fun e => (e.1, e.2.1, e.2.2 g)), mLk ([] : List (Nat × mV)), mLk ([] : List (Nat × mV)), some .int)
theorem m_X8_takes (g : mG) : mMono (f_X8_takes g) := mMonoL (g := g) (l := l_X8_takes) (List.forall_mem_cons.mpr ⟨mo_X8_next, fun _ h => absurd h List.not_mem_nil⟩) rfl

theorem w_tk (g : mG) (M : mM) (P : mP) (s h : Int32)
    (hVC : (¬ (M 50 40) = 0 → ((nI 1) = 0 ∨ (nI 1) = 1) ∧ (let M2 : mM := mW1 M 50 40 (nI 1); P (some (.inl (nI 0))) M2)) ∧ (¬ (¬ (M 50 40) = 0) → (¬ (M 50 36) = s → ((nI 1) = 0 ∨ (nI 1) = 1) ∧ (let M4 : mM := mW1 M 50 40 (nI 1); P (some (.inl (nI 0))) M4)) ∧ (¬ (¬ (M 50 36) = s) → ((M 50 37) ≤ h → ∃ x6 : List Int32 × Nat, pre_X8_next x6 [.inr (some 50)] M ∧ ∀ M7 : mM, post_X8_next x6 [.inr (some 50)] M M7 → (P (some (.inl (M 50 37))) M7)) ∧ (¬ ((M 50 37) ≤ h) → ((nI 1) = 0 ∨ (nI 1) = 1) ∧ (let M8 : mM := mW1 M 50 40 (nI 1); P (some (.inl (nI 0))) M8))))) :
    mRun (mSx g) (f_X8_takes g) P (0, [some (.inr (some 50)), some (.inl s), some (.inl h), none], [], M) := mRun.vc (m_X8_takes g) [] 18 hVC

theorem run_X8_takes : mRunOf 4 t_X8_takes f_X8_takes := fun g as M P hT => by
  obtain ⟨⟨t, s, k, h⟩, ⟨rfl, hR, hl, hbt, hS, hk0, hk, hh⟩, hP⟩ := hT
  refine ⟨Nat.le_of_ble_eq_true rfl, ?_⟩
  dsimp only at hR hl hbt hS hk0 hk hh hP
  have hQ : ∀ v M', v = nI (tk t s k h).1 → RS M' t (tk t s k h).2 → NXF M M' → P (some (.inl v)) M' := fun v M' a b c => hP v M' ⟨a, b, c⟩
  refine w_tk g M P _ _ ?_
  dsimp only
  have bad : ∀ b, tk t s k h = (0, .inl b) → M 50 35 = nI b → P (some (.inl (nI 0))) (mW1 M 50 40 (nI 1)) := fun b e e35 => by
    rw [e] at hQ
    exact hQ _ _ rfl ⟨mW1_s, (mW1_k (by decide)).trans e35⟩ (NXF.refl.up (Or.inr rfl))
  cases s with
  | inl b =>
    obtain ⟨e40, e35⟩ := hS
    rw [e40]
    exact ⟨fun _ => ⟨Or.inr rfl, bad b rfl e35⟩, fun q => absurd (show ¬ ((1 : Int32) = 0) by decide) q⟩
  | inr p =>
    obtain ⟨⟨e35, hm⟩, hp⟩ := hS
    cases hx : lx t p with
    | none =>
      rw [hx] at hm
      have e40 : M 50 40 = 1 := hm
      rw [e40]
      exact ⟨fun _ => ⟨Or.inr rfl, bad _ (by unfold tk; dsimp only; rw [hx]) e35⟩, fun q => absurd (show ¬ ((1 : Int32) = 0) by decide) q⟩
    | some q =>
      rw [hx] at hm
      obtain ⟨e40, e36, e37, e34, hle⟩ := hm
      have hb := lx_lt hp hx
      have et : tk t (.inr p) k h = if q.1 = k ∧ q.2.1 ≤ h then (q.2.1, .inr q.2.2) else (0, .inl (skip cB t p)) := by unfold tk; dsimp only; rw [hx]
      rw [e40, e36, nI_eq (by omega) (by omega)]
      refine ⟨fun z => absurd rfl z, fun _ => ⟨fun z => ⟨Or.inr rfl, bad _ (by rw [et, if_neg (fun y => z y.1)]) e35⟩, fun z => ?_⟩⟩
      have z' := Classical.not_not.mp z
      rw [e37 (by omega), nI_leI (by omega) (by omega)]
      refine ⟨fun w => ⟨(t, q.2.2), ⟨rfl, hR, hl, hbt, e40, e34, hle⟩, fun M7 h7 => ?_⟩, fun w => ⟨Or.inr rfl, bad _ (by rw [et, if_neg (fun y => w y.2)]) e35⟩⟩
      rw [et, if_pos ⟨z', w⟩] at hQ
      exact hQ _ _ rfl ⟨h7.1, hle⟩ h7.2
theorem ok_X8_takes : mOK yX8_takes cX8_takes 4 (some .int) 8 t_X8_takes := mOK.of f_X8_takes (by decide) (fun _ => rfl) (fun g => mCodeOK kk_X8_takes) (fun g => mFldL fk_RX8 rfl) (fun g idx v h => by cases h) (fun g idx v h => by cases h) (mCalL (l := l_X8_takes) (List.forall_mem_cons.mpr ⟨mSite.V (idx := 292) ok_X8_next (by decide) (by decide) rv_X8_next wc_X8_next wk_RX8_292 wi_X8_next wl_X8_next wn_RX8 wd_X8_next, fun _ h => absurd h List.not_mem_nil⟩) (fun _ => rfl)) run_X8_takes

def rd1 (t : List Int32) : Nat × (Nat ⊕ Nat) := tk t (.inr 0) 1 8
def rd2 (t : List Int32) : (Nat ⊕ Nat) × Int32 := if (rd1 t).1 = 5 then ((tk t (rd1 t).2 2 3).2, nI (tk t (rd1 t).2 2 3).1) else ((rd1 t).2, -1)
def rd3 (t : List Int32) : (Nat ⊕ Nat) × Int32 := if (rd1 t).1 = 0 ∨ (rd1 t).1 = 1 ∨ 5 ≤ (rd1 t).1 then ((tk t (rd2 t).1 3 999999).2, nI (tk t (rd2 t).1 3 999999).1) else ((rd2 t).1, -1)
def rd4 (t : List Int32) : (Nat ⊕ Nat) × Int32 := if (rd1 t).1 = 1 then ((tk t (rd3 t).1 2 4).2, nI (tk t (rd3 t).1 2 4).1) else ((rd3 t).1, (rd2 t).2)
def rdE (t : List Int32) : Nat ⊕ Nat := match (rd4 t).1 with
  | .inl b => .inl b
  | .inr p => match lx t p with
    | none => .inl (skip cB t p)
    | some q => if q.1 = 0 then .inr q.2.2 else .inl (skip cB t p)
def RW (M : mM) : Nat ⊕ Nat → Prop
  | .inl b => M 50 40 = 1 ∧ M 50 35 = nI b
  | .inr _ => M 50 40 = 0
def NX3 (M0 M : mM) : Prop := (∀ c, c ≠ 50 → M c = M0 c) ∧ ∀ k, ¬ (33 ≤ k ∧ k ≤ 40) → M 50 k = M0 50 k
def NX2 (M0 M : mM) : Prop := (∀ c, c ≠ 50 → M c = M0 c) ∧ ∀ k, ¬ (34 ≤ k ∧ k ≤ 40) → M 50 k = M0 50 k
theorem NX2.nx {M0 M M1 : mM} (h : NX2 M0 M) (k : NXF M M1) : NX2 M0 M1 := ⟨fun c hc => (k.1 c hc).trans (h.1 c hc), fun j hj => (k.2 j (by omega) (by omega)).trans (h.2 j hj)⟩
theorem NX2.up {M0 M : mM} {k : Nat} {v : Int32} (h : NX2 M0 M) (hk : 34 ≤ k ∧ k ≤ 40) : NX2 M0 (mW1 M 50 k v) := ⟨fun c hc => (mW1_c hc).trans (h.1 c hc), fun j h1 => (mW1_k (by omega)).trans (h.2 j h1)⟩
theorem NX2.tp {M0 M : mM} {t : List Int32} (h : NX2 M0 M) (k : RmTp M0 t) : RmTp M t := RmTp_fr k (h.2 33 (by decide)) (h.1 77 (by decide))
theorem RS.up {M : mM} {t : List Int32} {s : Nat ⊕ Nat} {k : Nat} {v : Int32} (h : RS M t s) (hk : k = 38 ∨ k = 39) : RS (mW1 M 50 k v) t s := by
  have f : ∀ j, j ≠ k → mW1 M 50 k v 50 j = M 50 j := fun j hj => mW1_k hj
  cases s with
  | inl b => exact ⟨(f 40 (by omega)).trans h.1, (f 35 (by omega)).trans h.2⟩
  | inr p =>
    obtain ⟨⟨h1, h2⟩, h3⟩ := h
    refine ⟨⟨(f 35 (by omega)).trans h1, ?_⟩, h3⟩
    cases hx : lx t p with
    | none =>
      rw [hx] at h2
      exact (f 40 (by omega)).trans h2
    | some q =>
      rw [hx] at h2
      exact ⟨(f 40 (by omega)).trans h2.1, (f 36 (by omega)).trans h2.2.1, fun z => (f 37 (by omega)).trans (h2.2.2.1 z), (f 34 (by omega)).trans h2.2.2.2.1, h2.2.2.2.2⟩
theorem rd1_lt {t : List Int32} : (rd1 t).1 ≤ 8 := by
  unfold rd1 tk
  dsimp only
  split
  · exact Nat.zero_le _
  · split
    · rename_i h
      exact h.2
    · exact Nat.zero_le _
def pre_X8_read (q : List Int32) (as : List mV) (M : mM) : Prop := as = [.inr (some 50)] ∧ RmTp M q ∧ q.length ≤ 40 ∧ (∀ b ∈ q, 0 ≤ b.toInt)
def post_X8_read (q : List Int32) (_ : List mV) (M : mM) (v : Int32) (M' : mM) : Prop := v = nI (rd1 q).1 ∧ RW M' (rdE q) ∧ M' 50 38 = (rd3 q).2 ∧ M' 50 39 = (rd4 q).2 ∧ M' 50 33 = 0 ∧ NX3 M M'
abbrev t_X8_read : mG → mT := mRi pre_X8_read post_X8_read
theorem mo_X8_read : mMn t_X8_read := mRi_mono
theorem rv_X8_read : mHasR yX8_read 0 t_X8_read := by
  intro g as M P hT hl
  obtain ⟨q, ⟨h2, -⟩, -⟩ := hT
  exact ⟨_, _, h2, is_X8 g _ rfl⟩
def k_X8_read : List (Nat × mI) := [(0, .aload_n 0, 1, 0, 0, []),
  (1, .iconst 0, 1, 0, nI 0, []),
  (2, .putfield 230, 3, 0, 0, []),
  (5, .aload_n 0, 1, 0, 0, []),
  (6, .iconst 0, 1, 0, nI 0, []),
  (7, .putfield 277, 3, 0, 0, []),
  (10, .aload_n 0, 1, 0, 0, []),
  (11, .invokevirtual 292, 3, 0, 0, []),
  (14, .aload_n 0, 1, 0, 0, []),
  (15, .iconst 1, 1, 0, nI 1, []),
  (16, .bipush 8, 2, 0, nI 8, []),
  (18, .invokevirtual 295, 3, 0, 0, []),
  (21, .istore_n 1, 1, 1, 0, []),
  (22, .aload_n 0, 1, 0, 0, []),
  (23, .iconst (-1), 1, 0, -1, []),
  (24, .putfield 298, 3, 0, 0, []),
  (27, .aload_n 0, 1, 0, 0, []),
  (28, .iconst (-1), 1, 0, -1, []),
  (29, .putfield 301, 3, 0, 0, []),
  (32, .iload_n 1, 1, 1, 0, []),
  (33, .iconst 5, 1, 0, nI 5, []),
  (34, .if_icmp .ne 13, 3, 47, 0, []),
  (37, .aload_n 0, 1, 0, 0, []),
  (38, .aload_n 0, 1, 0, 0, []),
  (39, .iconst 2, 1, 0, nI 2, []),
  (40, .iconst 3, 1, 0, nI 3, []),
  (41, .invokevirtual 295, 3, 0, 0, []),
  (44, .putfield 301, 3, 0, 0, []),
  (47, .iload_n 1, 1, 1, 0, []),
  (48, .ifCond .eq 13, 3, 61, 0, []),
  (51, .iload_n 1, 1, 1, 0, []),
  (52, .iconst 1, 1, 0, nI 1, []),
  (53, .if_icmp .eq 8, 3, 61, 0, []),
  (56, .iload_n 1, 1, 1, 0, []),
  (57, .iconst 5, 1, 0, nI 5, []),
  (58, .if_icmp .lt 15, 3, 73, 0, []),
  (61, .aload_n 0, 1, 0, 0, []),
  (62, .aload_n 0, 1, 0, 0, []),
  (63, .iconst 3, 1, 0, nI 3, []),
  (64, .ldc_w 304, 3, 0, 0, []),
  (67, .invokevirtual 295, 3, 0, 0, []),
  (70, .putfield 298, 3, 0, 0, []),
  (73, .iload_n 1, 1, 1, 0, []),
  (74, .iconst 1, 1, 0, nI 1, []),
  (75, .if_icmp .ne 13, 3, 88, 0, []),
  (78, .aload_n 0, 1, 0, 0, []),
  (79, .aload_n 0, 1, 0, 0, []),
  (80, .iconst 2, 1, 0, nI 2, []),
  (81, .iconst 4, 1, 0, nI 4, []),
  (82, .invokevirtual 295, 3, 0, 0, []),
  (85, .putfield 301, 3, 0, 0, []),
  (88, .aload_n 0, 1, 0, 0, []),
  (89, .dup, 1, 0, 0, []),
  (90, .getfield 277, 3, 0, 0, []),
  (93, .aload_n 0, 1, 0, 0, []),
  (94, .getfield 280, 3, 0, 0, []),
  (97, .ifCond .eq 7, 3, 104, 0, []),
  (100, .iconst 1, 1, 0, nI 1, []),
  (101, .goto 4, 3, 105, 0, []),
  (104, .iconst 0, 1, 0, nI 0, []),
  (105, .ior, 1, 0, 0, []),
  (106, .putfield 277, 3, 0, 0, []),
  (109, .aload_n 0, 1, 0, 0, []),
  (110, .iconst 0, 1, 0, nI 0, []),
  (111, .putfield 222, 3, 0, 0, []),
  (114, .iload_n 1, 1, 1, 0, []),
  (115, .ireturn, 1, 0, 0, [])]
theorem kk_X8_read : (k_X8_read.all fun e => mChk cX8_read e.1 e.2) = true := by decide +kernel
def l_X8_read : List (Nat × Nat × (mG → mT)) := [(3 * 292, 0 + 1, t_X8_next), (3 * 295, 2 + 1, t_X8_takes)]
def f_X8_read (g : mG) : mF := (mLk k_X8_read, mLk fl_RX8, mLk (l_X8_read.map fun e => (e.1, e.2.1, e.2.2 g)), mLk cs_RX8, mLk ([] : List (Nat × mV)), some .int)
theorem m_X8_read (g : mG) : mMono (f_X8_read g) := mMonoL (g := g) (l := l_X8_read) (List.forall_mem_cons.mpr ⟨mo_X8_next, List.forall_mem_cons.mpr ⟨mo_X8_takes, fun _ h => absurd h List.not_mem_nil⟩⟩) rfl

theorem w_rd_0 (g : mG) (M : mM) (P : mP) 
    (h : let M1 : mM := mW1 M 50 34 (nI 0); ((nI 0) = 0 ∨ (nI 0) = 1) ∧ (let M2 : mM := mW1 M1 50 40 (nI 0); ∃ x3 : List Int32 × Nat, pre_X8_next x3 [.inr (some 50)] M2 ∧ ∀ M4 : mM, post_X8_next x3 [.inr (some 50)] M2 M4 → (∃ x5 : List Int32 × (Nat ⊕ Nat) × Nat × Nat, pre_X8_takes x5 [.inr (some 50), .inl (nI 1), .inl (nI 8)] M4 ∧ ∀ (r7 : Int32) (M6 : mM), post_X8_takes x5 [.inr (some 50), .inl (nI 1), .inl (nI 8)] M4 r7 M6 → (mRun (mSx g) (f_X8_read g) P (22, [some (.inr (some 50)), some (.inl r7)], [], M6))))) :
    mRun (mSx g) (f_X8_read g) P (0, [some (.inr (some 50)), none], [], M) := mRun.vc (m_X8_read g) [22] 14 h

theorem w_rd_22 (g : mG) (M : mM) (P : mP) (w : Int32)
    (h : let M1 : mM := mW1 M 50 38 (-1); let M2 : mM := mW1 M1 50 39 (-1); (¬ w = (nI 5) → mRun (mSx g) (f_X8_read g) P (47, [some (.inr (some 50)), some (.inl w)], [], M2)) ∧ (¬ (¬ w = (nI 5)) → ∃ x4 : List Int32 × (Nat ⊕ Nat) × Nat × Nat, pre_X8_takes x4 [.inr (some 50), .inl (nI 2), .inl (nI 3)] M2 ∧ ∀ (r6 : Int32) (M5 : mM), post_X8_takes x4 [.inr (some 50), .inl (nI 2), .inl (nI 3)] M2 r6 M5 → (let M7 : mM := mW1 M5 50 39 r6; mRun (mSx g) (f_X8_read g) P (47, [some (.inr (some 50)), some (.inl w)], [], M7)))) :
    mRun (mSx g) (f_X8_read g) P (22, [some (.inr (some 50)), some (.inl w)], [], M) := mRun.vc (m_X8_read g) [47] 16 h

theorem w_rd_47 (g : mG) (M : mM) (P : mP) (w : Int32)
    (h : (w = 0 → ∃ x2 : List Int32 × (Nat ⊕ Nat) × Nat × Nat, pre_X8_takes x2 [.inr (some 50), .inl (nI 3), .inl (nI 999999)] M ∧ ∀ (r4 : Int32) (M3 : mM), post_X8_takes x2 [.inr (some 50), .inl (nI 3), .inl (nI 999999)] M r4 M3 → (let M5 : mM := mW1 M3 50 38 r4; mRun (mSx g) (f_X8_read g) P (73, [some (.inr (some 50)), some (.inl w)], [], M5))) ∧ (¬ (w = 0) → (w = (nI 1) → ∃ x7 : List Int32 × (Nat ⊕ Nat) × Nat × Nat, pre_X8_takes x7 [.inr (some 50), .inl (nI 3), .inl (nI 999999)] M ∧ ∀ (r9 : Int32) (M8 : mM), post_X8_takes x7 [.inr (some 50), .inl (nI 3), .inl (nI 999999)] M r9 M8 → (let M10 : mM := mW1 M8 50 38 r9; mRun (mSx g) (f_X8_read g) P (73, [some (.inr (some 50)), some (.inl w)], [], M10))) ∧ (¬ (w = (nI 1)) → (w < (nI 5) → mRun (mSx g) (f_X8_read g) P (73, [some (.inr (some 50)), some (.inl w)], [], M)) ∧ (¬ (w < (nI 5)) → ∃ x12 : List Int32 × (Nat ⊕ Nat) × Nat × Nat, pre_X8_takes x12 [.inr (some 50), .inl (nI 3), .inl (nI 999999)] M ∧ ∀ (r14 : Int32) (M13 : mM), post_X8_takes x12 [.inr (some 50), .inl (nI 3), .inl (nI 999999)] M r14 M13 → (let M15 : mM := mW1 M13 50 38 r14; mRun (mSx g) (f_X8_read g) P (73, [some (.inr (some 50)), some (.inl w)], [], M15)))))) :
    mRun (mSx g) (f_X8_read g) P (47, [some (.inr (some 50)), some (.inl w)], [], M) := mRun.vc (m_X8_read g) [73] 15 h

theorem w_rd_73 (g : mG) (M : mM) (P : mP) (w : Int32)
    (h : (¬ w = (nI 1) → mRun (mSx g) (f_X8_read g) P (88, [some (.inr (some 50)), some (.inl w)], [], M)) ∧ (¬ (¬ w = (nI 1)) → ∃ x2 : List Int32 × (Nat ⊕ Nat) × Nat × Nat, pre_X8_takes x2 [.inr (some 50), .inl (nI 2), .inl (nI 4)] M ∧ ∀ (r4 : Int32) (M3 : mM), post_X8_takes x2 [.inr (some 50), .inl (nI 2), .inl (nI 4)] M r4 M3 → (let M5 : mM := mW1 M3 50 39 r4; mRun (mSx g) (f_X8_read g) P (88, [some (.inr (some 50)), some (.inl w)], [], M5)))) :
    mRun (mSx g) (f_X8_read g) P (73, [some (.inr (some 50)), some (.inl w)], [], M) := mRun.vc (m_X8_read g) [88] 10 h

theorem w_rd_88 (g : mG) (M : mM) (P : mP) (w : Int32)
    (h : ((M 50 36) = 0 → (((M 50 40) ||| (nI 0)) = 0 ∨ ((M 50 40) ||| (nI 0)) = 1) ∧ (let M2 : mM := mW1 M 50 40 ((M 50 40) ||| (nI 0)); let M3 : mM := mW1 M2 50 33 (nI 0); P (some (.inl w)) M3)) ∧ (¬ ((M 50 36) = 0) → (((M 50 40) ||| (nI 1)) = 0 ∨ ((M 50 40) ||| (nI 1)) = 1) ∧ (let M4 : mM := mW1 M 50 40 ((M 50 40) ||| (nI 1)); let M5 : mM := mW1 M4 50 33 (nI 0); P (some (.inl w)) M5))) :
    mRun (mSx g) (f_X8_read g) P (88, [some (.inr (some 50)), some (.inl w)], [], M) := mRun.vc (m_X8_read g) [] 15 h

theorem rd_88 (g : mG) (M M0 : mM) (P : mP) (t : List Int32) (hS : RS M t (rd4 t).1) (hF : NX2 M0 M) (hn : M 50 38 = (rd3 t).2) (hu : M 50 39 = (rd4 t).2) (hP : ∀ v M', v = nI (rd1 t).1 → RW M' (rdE t) → M' 50 38 = (rd3 t).2 → M' 50 39 = (rd4 t).2 → M' 50 33 = 0 → NX3 M0 M' → P (some (.inl v)) M') :
    mRun (mSx g) (f_X8_read g) P (88, [some (.inr (some 50)), some (.inl (nI (rd1 t).1))], [], M) := by
  have fin : ∀ x : Int32, (∀ M' : mM, M' 50 40 = x → M' 50 35 = M 50 35 → RW M' (rdE t)) → P (some (.inl (nI (rd1 t).1))) (mW1 (mW1 M 50 40 x) 50 33 (nI 0)) := fun x hx => by
    refine hP _ _ rfl (hx _ ?_ ?_) ?_ ?_ mW1_s ⟨fun c hc => ?_, fun k hk => ?_⟩
    · rw [mW1_k (by decide), mW1_s]
    · rw [mW1_k (by decide), mW1_k (by decide)]
    · rw [mW1_k (by decide), mW1_k (by decide)]
      exact hn
    · rw [mW1_k (by decide), mW1_k (by decide)]
      exact hu
    · rw [mW1_c hc, mW1_c hc]
      exact hF.1 c hc
    · rw [mW1_k (by omega), mW1_k (by omega)]
      exact hF.2 k (by omega)
  refine w_rd_88 g M P _ ?_
  unfold rdE at fin
  cases hs : (rd4 t).1 with
  | inl b =>
    rw [hs] at hS fin
    obtain ⟨e40, e35⟩ := hS
    rw [e40]
    exact ⟨fun _ => ⟨by decide, fin _ (fun M' a b => ⟨a.trans (by decide), b.trans e35⟩)⟩, fun _ => ⟨by decide, fin _ (fun M' a b => ⟨a.trans (by decide), b.trans e35⟩)⟩⟩
  | inr p =>
    rw [hs] at hS fin
    dsimp only at fin
    obtain ⟨⟨e35, hm⟩, hp⟩ := hS
    cases hx : lx t p with
    | none =>
      rw [hx] at hm fin
      have e40 : M 50 40 = 1 := hm
      rw [e40]
      exact ⟨fun _ => ⟨by decide, fin _ (fun M' a b => ⟨a.trans (by decide), b.trans e35⟩)⟩, fun _ => ⟨by decide, fin _ (fun M' a b => ⟨a.trans (by decide), b.trans e35⟩)⟩⟩
    | some q =>
      rw [hx] at hm fin
      dsimp only at fin
      obtain ⟨e40, e36, -⟩ := hm
      have hb := lx_lt hp hx
      have z0 : nI q.1 = 0 ↔ q.1 = 0 := nI_eq (b := 0) (by omega) (by decide)
      rw [e40, e36, z0]
      refine ⟨fun z => ⟨by decide, fin _ (fun M' a b => ?_)⟩, fun z => ⟨by decide, fin _ (fun M' a b => ?_)⟩⟩
      · rw [if_pos z]
        exact a.trans (by decide)
      · rw [if_neg z]
        exact ⟨a.trans (by decide), b.trans e35⟩
theorem run_X8_read : mRunOf 2 t_X8_read f_X8_read := fun g as M P hT => by
  obtain ⟨t, ⟨rfl, hR, hl, hbt⟩, hP⟩ := hT
  refine ⟨Nat.le_of_ble_eq_true rfl, ?_⟩
  have hP' : ∀ v M', v = nI (rd1 t).1 → RW M' (rdE t) → M' 50 38 = (rd3 t).2 → M' 50 39 = (rd4 t).2 → M' 50 33 = 0 → NX3 M M' → P (some (.inl v)) M' := fun v M' a b c d e f => hP v M' ⟨a, b, c, d, e, f⟩
  have hw8 := rd1_lt (t := t)
  refine w_rd_0 g M P ?_
  intro M1
  refine ⟨Or.inl rfl, ?_⟩
  intro M2
  have hF2 : NX2 M M2 := NX2.up (NX2.up ⟨fun _ _ => rfl, fun _ _ => rfl⟩ (by decide)) (by decide)
  refine ⟨(t, 0), ⟨rfl, hF2.tp hR, hl, hbt, mW1_s, (mW1_k (by decide) : M2 50 34 = M1 50 34).trans mW1_s, Nat.zero_le _⟩, fun M4 h4 => ?_⟩
  have hF4 := hF2.nx h4.2
  refine ⟨(t, .inr 0, 1, 8), ⟨rfl, hF4.tp hR, hl, hbt, ⟨h4.1, Nat.zero_le _⟩, (by decide : 0 < 1), (by decide : 1 < 10), (by decide : 8 < 1000000)⟩, fun r M6 h6 => ?_⟩
  obtain ⟨hr, hS6, hF6⟩ := h6
  have hF6' := hF4.nx hF6
  have hr' : r = nI (rd1 t).1 := hr
  have hS6' : RS M6 t (rd1 t).2 := hS6
  rw [hr']
  clear hr hS6 hF6
  refine w_rd_22 g M6 P _ ?_
  intro M7 M8
  have hS8 : RS M8 t (rd1 t).2 := (hS6'.up (Or.inl rfl)).up (Or.inr rfl)
  have hF8 : NX2 M M8 := (hF6'.up (by decide)).up (by decide)
  have n8' : M8 50 38 = -1 := (mW1_k (by decide) : M8 50 38 = M7 50 38).trans mW1_s
  have u8 : M8 50 39 = -1 := mW1_s
  clear_value M8
  -- the suit of a card
  have s47 : ∀ (M9 : mM), RS M9 t (rd2 t).1 → NX2 M M9 → M9 50 38 = -1 → M9 50 39 = (rd2 t).2 → mRun (mSx g) (f_X8_read g) P (47, [some (.inr (some 50)), some (.inl (nI (rd1 t).1))], [], M9) := fun M9 hS hF hn hu => by
    -- the number
    have s73 : ∀ (M10 : mM), RS M10 t (rd3 t).1 → NX2 M M10 → M10 50 38 = (rd3 t).2 → M10 50 39 = (rd2 t).2 → mRun (mSx g) (f_X8_read g) P (73, [some (.inr (some 50)), some (.inl (nI (rd1 t).1))], [], M10) := fun M10 hS hF hn hu => by
      refine w_rd_73 g M10 P _ ?_
      rw [nI_eq (by omega) (by decide)]
      refine ⟨fun z => rd_88 g M10 M P t (by unfold rd4; rw [if_neg z]; exact hS) hF hn (by unfold rd4; rw [if_neg z]; exact hu) hP', fun z => ?_⟩
      have z' := Classical.not_not.mp z
      refine ⟨(t, (rd3 t).1, 2, 4), ⟨rfl, hF.tp hR, hl, hbt, hS, (by decide : 0 < 2), (by decide : 2 < 10), (by decide : 4 < 1000000)⟩, fun r M3 h3 => ?_⟩
      obtain ⟨hr, hS3, hF3⟩ := h3
      intro M5
      have e4 : rd4 t = ((tk t (rd3 t).1 2 4).2, nI (tk t (rd3 t).1 2 4).1) := by unfold rd4; rw [if_pos z']
      refine rd_88 g M5 M P t (by rw [e4]; exact RS.up hS3 (Or.inr rfl)) ((hF.nx hF3).up (by decide)) ?_ (by rw [e4]; exact mW1_s.trans hr) hP'
      exact ((mW1_k (by decide) : M5 50 38 = M3 50 38).trans (hF3.2 38 (by decide) (by decide))).trans hn
    have num : ((rd1 t).1 = 0 ∨ (rd1 t).1 = 1 ∨ 5 ≤ (rd1 t).1) → ∃ x2 : List Int32 × (Nat ⊕ Nat) × Nat × Nat, pre_X8_takes x2 [.inr (some 50), .inl (nI 3), .inl (nI 999999)] M9 ∧ ∀ (r4 : Int32) (M3 : mM), post_X8_takes x2 [.inr (some 50), .inl (nI 3), .inl (nI 999999)] M9 r4 M3 → mRun (mSx g) (f_X8_read g) P (73, [some (.inr (some 50)), some (.inl (nI (rd1 t).1))], [], mW1 M3 50 38 r4) := fun z => by
      refine ⟨(t, (rd2 t).1, 3, 999999), ⟨rfl, hF.tp hR, hl, hbt, hS, (by decide : 0 < 3), (by decide : 3 < 10), (by decide : 999999 < 1000000)⟩, fun r M3 h3 => ?_⟩
      obtain ⟨hr, hS3, hF3⟩ := h3
      have e3 : rd3 t = ((tk t (rd2 t).1 3 999999).2, nI (tk t (rd2 t).1 3 999999).1) := by unfold rd3; rw [if_pos z]
      refine s73 _ (by rw [e3]; exact RS.up hS3 (Or.inl rfl)) ((hF.nx hF3).up (by decide)) (by rw [e3]; exact mW1_s.trans hr) ?_
      exact ((mW1_k (by decide)).trans (hF3.2 39 (by decide) (by decide))).trans hu
    have z0 : nI (rd1 t).1 = 0 ↔ (rd1 t).1 = 0 := nI_eq (b := 0) (by omega) (by decide)
    refine w_rd_47 g M9 P _ ?_
    rw [z0, nI_eq (by omega) (by decide), nI_ltI (by omega) (by decide)]
    refine ⟨fun z => num (Or.inl z), fun n0 => ⟨fun z => num (Or.inr (Or.inl z)), fun n1 => ⟨fun z => ?_, fun z => num (Or.inr (Or.inr (by omega)))⟩⟩⟩
    have e3 : rd3 t = ((rd2 t).1, -1) := by
      unfold rd3
      rw [if_neg (fun y => y.elim n0 (fun y => y.elim n1 (fun y => by omega)))]
    exact s73 M9 (by rw [e3]; exact hS) hF (by rw [e3]; exact hn) hu
  rw [nI_eq (by omega) (by decide)]
  refine ⟨fun z => s47 M8 (by unfold rd2; rw [if_neg z]; exact hS8) hF8 n8' (by unfold rd2; rw [if_neg z]; exact u8), fun z => ?_⟩
  have z' := Classical.not_not.mp z
  refine ⟨(t, (rd1 t).2, 2, 3), ⟨rfl, hF8.tp hR, hl, hbt, hS8, (by decide : 0 < 2), (by decide : 2 < 10), (by decide : 3 < 1000000)⟩, fun r M3 h3 => ?_⟩
  obtain ⟨hr, hS3, hF3⟩ := h3
  intro M5
  have e2 : rd2 t = ((tk t (rd1 t).2 2 3).2, nI (tk t (rd1 t).2 2 3).1) := by unfold rd2; rw [if_pos z']
  refine s47 M5 (by rw [e2]; exact RS.up hS3 (Or.inr rfl)) ((hF8.nx hF3).up (by decide)) ?_ (by rw [e2]; exact mW1_s.trans hr)
  exact ((mW1_k (by decide) : M5 50 38 = M3 50 38).trans (hF3.2 38 (by decide) (by decide))).trans n8' 
theorem ok_X8_read : mOK yX8_read cX8_read 2 (some .int) 9 t_X8_read := mOK.of f_X8_read (by decide) (fun _ => rfl) (fun g => mCodeOK kk_X8_read) (fun g => mFldL fk_RX8 rfl) (mCstL ck_RX8 (fun _ => rfl)) (fun g idx v h => by cases h) (mCalL (l := l_X8_read) (List.forall_mem_cons.mpr ⟨mSite.V (idx := 292) ok_X8_next (by decide) (by decide) rv_X8_next wc_X8_next wk_RX8_292 wi_X8_next wl_X8_next wn_RX8 wd_X8_next, List.forall_mem_cons.mpr ⟨mSite.V (idx := 295) ok_X8_takes (by decide) (by decide) rv_X8_takes wc_X8_takes wk_RX8_295 wi_X8_takes wl_X8_takes wn_RX8 wd_X8_takes, fun _ h => absurd h List.not_mem_nil⟩⟩) (fun _ => rfl)) run_X8_read

/-! what the two read is the same -/
theorem lWd_long {t : List Int32} {a e w : Nat} (h : lWd t a e = some w) : 3 ≤ e - a := by
  have hw : w < 9 := by
    have := fO_lt h
    omega
  have hd : dTx t w a e = true := by
    have h0 : ∀ (n i : Nat), fO (fun w => !dTx t w a e) n i = some w → dTx t w a e = true := by
      intro n
      induction n with
      | zero => intro i h; cases h
      | succ n ih =>
        intro i h
        rw [fO] at h
        split at h
        · exact ih (i + 1) h
        · rename_i hn
          cases h
          simpa using hn
    exact h0 9 0 h
  unfold dTx at hd
  rw [Bool.and_eq_true, decide_eq_true_eq] at hd
  rw [hd.1]
  have : ∀ w, w < 9 → 3 ≤ (wB w).length := by decide +kernel
  exact this w hw
theorem cL_cD {c : Int32} (h : cL c = true) : cD c = false := by
  unfold cL at h
  unfold cD
  rw [Bool.and_eq_true, decide_eq_true_eq, decide_eq_true_eq] at h
  rw [Bool.and_eq_false_iff, decide_eq_false_iff_not, decide_eq_false_iff_not]
  right
  have h1 := h.1
  simp only [fa_le] at h1 ⊢
  rw [nI_toInt (by decide)] at h1 ⊢
  omega
theorem rdA {t : List Int32} : tk t (.inr 0) 1 8 = match pWord t with
    | none => (0, .inl (skip cB t 0))
    | some w => (w, .inr (skip cL t (skip cB t 0))) := by
  have hs := skip_le (f := cB) (Nat.zero_le t.length)
  have hp : pWord t = lWd t (skip cB t 0) (skip cL t (skip cB t 0)) := rfl
  unfold tk
  dsimp only
  rw [hp]
  unfold lx
  by_cases h0 : skip cB t 0 = t.length
  · rw [if_pos h0]
    have : lWd t (skip cB t 0) (skip cL t (skip cB t 0)) = none := by
      cases hw : lWd t (skip cB t 0) (skip cL t (skip cB t 0)) with
      | none => rfl
      | some w =>
        have := lWd_long hw
        rw [skip_end (f := cL) (by omega)] at this
        omega
    rw [this]
    dsimp only
    rw [if_neg (fun y => absurd y.1 (by decide : ¬ (0 = 1)))]
  · rw [if_neg h0]
    by_cases hL : cL (bA t (skip cB t 0)) = true
    · rw [if_pos hL]
      cases hs5 : lSu t (skip cB t 0) (skip cL t (skip cB t 0)) with
      | some s =>
        have : lWd t (skip cB t 0) (skip cL t (skip cB t 0)) = none := by
          cases hw : lWd t (skip cB t 0) (skip cL t (skip cB t 0)) with
          | none => rfl
          | some w =>
            have := lWd_long hw
            have h1 : skip cL t (skip cB t 0) - skip cB t 0 = 1 := by
              unfold lSu at hs5
              split at hs5
              · assumption
              · cases hs5
            omega
        rw [this]
        dsimp only
        rw [if_neg (fun y => absurd y.1 (by decide : ¬ (2 = 1)))]
      | none =>
        cases hw : lWd t (skip cB t 0) (skip cL t (skip cB t 0)) with
        | none => rfl
        | some w =>
          have h9 : w < 9 := by
            have := fO_lt hw
            omega
          show (if 1 = 1 ∧ w ≤ 8 then _ else _) = _
          rw [if_pos ⟨rfl, by omega⟩]
    · rw [if_neg hL]
      have : lWd t (skip cB t 0) (skip cL t (skip cB t 0)) = none := by
        cases hw : lWd t (skip cB t 0) (skip cL t (skip cB t 0)) with
        | none => rfl
        | some w =>
          have := lWd_long hw
          rw [skip_no (f := cL) (Bool.eq_false_iff.mpr hL)] at this
          omega
      rw [this]
      split
      · rename_i hn
        rfl
      · rename_i q hq
        split at hq
        · split at hq
          · cases hq
            dsimp only
            rw [if_neg (fun y => absurd y.1 (by decide : ¬ (3 = 1)))]
          · cases hq
        · cases hq
theorem rdB {t : List Int32} {p : Nat} (hp : p ≤ t.length) : tk t (.inr p) 3 999999 = match pNum t p with
    | none => (0, .inl (skip cB t p))
    | some q => (q.1, .inr q.2) := by
  have hs := skip_le (f := cB) hp
  cases hx : lx t p with
  | none =>
    have e : tk t (.inr p) 3 999999 = (0, .inl (skip cB t p)) := by unfold tk; dsimp only; rw [hx]
    rw [e]
    have : pNum t p = none := by
      unfold pNum
      unfold lx at hx
      by_cases h0 : skip cB t p = t.length
      · rw [if_pos h0] at hx
        cases hx
      rw [if_neg h0] at hx
      by_cases hL : cL (bA t (skip cB t p)) = true
      · rw [if_pos (Or.inl (skip_no (cL_cD hL)))]
      rw [if_neg hL] at hx
      by_cases hD : cD (bA t (skip cB t p)) = true
      · rw [if_pos hD] at hx
        split at hx
        · cases hx
        · rw [if_pos (Or.inr (by omega))]
      · rw [if_pos (Or.inl (skip_no (Bool.eq_false_iff.mpr hD)))]
    rw [this]
  | some q =>
    have hb := lx_lt hp hx
    have e : tk t (.inr p) 3 999999 = if q.1 = 3 ∧ q.2.1 ≤ 999999 then (q.2.1, .inr q.2.2) else (0, .inl (skip cB t p)) := by unfold tk; dsimp only; rw [hx]
    rw [e]
    unfold lx at hx
    unfold pNum
    by_cases h0 : skip cB t p = t.length
    · rw [if_pos h0] at hx
      cases hx
      rw [if_neg (fun y => absurd y.1 (by decide : ¬ (0 = 3))), if_pos (Or.inl (skip_end (by omega)))]
    rw [if_neg h0] at hx
    by_cases hL : cL (bA t (skip cB t p)) = true
    · rw [if_pos hL] at hx
      rw [if_pos (Or.inl (skip_no (cL_cD hL)))]
      have h3 : q.1 ≠ 3 := by
        split at hx
        · cases hx
          exact (by decide : (2 : Nat) ≠ 3)
        · cases hw : lWd t (skip cB t p) (skip cL t (skip cB t p)) with
          | none => rw [hw] at hx; cases hx
          | some w =>
            rw [hw] at hx
            cases hx
            exact (by decide : (1 : Nat) ≠ 3)
      rw [if_neg (fun y => h3 y.1)]
    rw [if_neg hL] at hx
    by_cases hD : cD (bA t (skip cB t p)) = true
    · rw [if_pos hD] at hx
      split at hx
      · rename_i h6
        cases hx
        have hlt : skip cB t p < t.length := by omega
        have hst := skip_yes hlt hD
        have hge := (skip_le (f := cD) (show skip cB t p + 1 ≤ t.length by omega)).1
        rw [if_pos ⟨rfl, by omega⟩, if_neg (fun y => by omega)]
      · cases hx
    · rw [if_neg hD] at hx
      cases hx
theorem ltr_4 {c : Int32} {s : Nat} (h : ltr c 5 = some s) : ltr c 4 = if s ≤ 3 then some s else none := by
  rw [ltr] at h
  split at h
  · rename_i hc
    cases h
    rw [hc]
    decide
  · have : s ≤ 3 := by
      have h0 : ∀ n, ltr c n = some s → s < n := by
        intro n
        induction n with
        | zero => intro h; cases h
        | succ n ih =>
          intro h
          rw [ltr] at h
          split at h
          · cases h
            omega
          · have := ih h
            omega
      have := h0 4 h
      omega
    rw [if_pos this]
    exact h
theorem ltr_4n {c : Int32} (h : ltr c 5 = none) : ltr c 4 = none := by
  rw [ltr] at h
  split at h
  · cases h
  · exact h
theorem rdC {t : List Int32} {p k : Nat} (hp : p ≤ t.length) (hk : k = 4 ∨ k = 5) : tk t (.inr p) 2 (k - 1) = match pSuit t k p with
    | none => (0, .inl (skip cB t p))
    | some q => (q.1, .inr q.2) := by
  have hs := skip_le (f := cB) hp
  have hsu : lSu t (skip cB t p) (skip cL t (skip cB t p)) = if skip cL t (skip cB t p) - skip cB t p = 1 then ltr (bA t (skip cB t p)) 5 else none := rfl
  have hps : pSuit t k p = match lSu t (skip cB t p) (skip cL t (skip cB t p)) with
      | none => none
      | some s => if s ≤ k - 1 then some (s, skip cL t (skip cB t p)) else none := by
    unfold pSuit
    rw [hsu]
    by_cases h1 : skip cL t (skip cB t p) - skip cB t p = 1
    · rw [if_pos h1, if_pos h1]
      cases h5 : ltr (bA t (skip cB t p)) 5 with
      | none =>
        rcases hk with rfl | rfl
        · rw [ltr_4n h5]
          rfl
        · rw [h5]
          rfl
      | some s =>
        have hlt := lSu_lt (t := t) (a := skip cB t p) (e := skip cL t (skip cB t p)) (s := s) (by rw [hsu, if_pos h1, h5])
        rcases hk with rfl | rfl
        · rw [ltr_4 h5]
          dsimp only
          split <;> rfl
        · rw [h5]
          dsimp only
          rw [if_pos (by omega)]
          rfl
    · rw [if_neg h1, if_neg h1]
  rw [hps]
  cases hx : lx t p with
  | none =>
    have e : tk t (.inr p) 2 (k - 1) = (0, .inl (skip cB t p)) := by unfold tk; dsimp only; rw [hx]
    rw [e]
    have : lSu t (skip cB t p) (skip cL t (skip cB t p)) = none := by
      unfold lx at hx
      by_cases h0 : skip cB t p = t.length
      · rw [if_pos h0] at hx
        cases hx
      rw [if_neg h0] at hx
      by_cases hL : cL (bA t (skip cB t p)) = true
      · rw [if_pos hL] at hx
        cases h5 : lSu t (skip cB t p) (skip cL t (skip cB t p)) with
        | none => rfl
        | some s => rw [h5] at hx; cases hx
      · rw [hsu, skip_no (f := cL) (Bool.eq_false_iff.mpr hL), Nat.sub_self, if_neg (by decide : ¬ (0 = 1))]
    rw [this]
  | some q =>
    have hb := lx_lt hp hx
    have e : tk t (.inr p) 2 (k - 1) = if q.1 = 2 ∧ q.2.1 ≤ k - 1 then (q.2.1, .inr q.2.2) else (0, .inl (skip cB t p)) := by unfold tk; dsimp only; rw [hx]
    rw [e]
    unfold lx at hx
    by_cases h0 : skip cB t p = t.length
    · rw [if_pos h0] at hx
      cases hx
      rw [if_neg (fun y => by cases y.1), hsu, skip_end (f := cL) (by omega), Nat.sub_self, if_neg (by decide : ¬ (0 = 1))]
    rw [if_neg h0] at hx
    by_cases hL : cL (bA t (skip cB t p)) = true
    · rw [if_pos hL] at hx
      cases h5 : lSu t (skip cB t p) (skip cL t (skip cB t p)) with
      | none =>
        rw [h5] at hx
        have h2 : q.1 ≠ 2 := by
          cases hw : lWd t (skip cB t p) (skip cL t (skip cB t p)) with
          | none => rw [hw] at hx; cases hx
          | some w =>
            rw [hw] at hx
            cases hx
            exact (by decide : (1 : Nat) ≠ 2)
        rw [if_neg (fun y => h2 y.1)]
      | some s =>
        rw [h5] at hx
        cases hx
        dsimp only
        by_cases h4 : s ≤ k - 1
        · rw [if_pos ⟨rfl, h4⟩, if_pos h4]
        · rw [if_neg (fun y => h4 y.2), if_neg h4]
    · rw [if_neg hL] at hx
      rw [hsu, skip_no (f := cL) (Bool.eq_false_iff.mpr hL), Nat.sub_self, if_neg (by decide : ¬ (0 = 1))]
      have h2 : q.1 ≠ 2 := by
        split at hx
        · split at hx
          · cases hx
            exact (by decide : (3 : Nat) ≠ 2)
          · cases hx
        · cases hx
      rw [if_neg (fun y => h2 y.1)]
