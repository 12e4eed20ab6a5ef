/-! ===== String.charAt OF A TEXT THAT WAS MADE ===== -/
def xpre_J0_isLatin1_aae02 (q : List Int32) (g : mG) (as : List mV) (M : mM) : Prop := as = [.inr (some 2)] ∧ sTx g M 2 q
def xpost_J0_isLatin1_aae02 (q : List Int32) (as : List mV) (M : mM) (v : Int32) (M' : mM) : Prop := v = nI 1 ∧ M' = M
abbrev xt_J0_isLatin1_aae02 : mG → mT := mGi xpre_J0_isLatin1_aae02 xpost_J0_isLatin1_aae02
theorem xmo_J0_isLatin1_aae02 : mMn xt_J0_isLatin1_aae02 := mGi_mono

def xk_J0_isLatin1_aae02 : List (Nat × mI) := [(0, .getstatic 38, 3, 0, 0, []),
  (3, .ifCond .eq 14, 3, 17, 0, []),
  (6, .aload_n 0, 1, 0, 0, []),
  (7, .getfield 15, 3, 0, 0, []),
  (10, .ifCond .ne 7, 3, 17, 0, []),
  (13, .iconst 1, 1, 0, nI 1, []),
  (14, .goto 4, 3, 18, 0, []),
  (17, .iconst 0, 1, 0, nI 0, []),
  (18, .ireturn, 1, 0, 0, [])]
theorem xkk_J0_isLatin1_aae02 : (xk_J0_isLatin1_aae02.all fun e => mChk cJ0_isLatin1_aae02 e.1 e.2) = true := by decide +kernel
def xl_J0_isLatin1_aae02 : List (Nat × Nat × (mG → mT)) := []
def xf_J0_isLatin1_aae02 (g : mG) : mF := (mLk xk_J0_isLatin1_aae02, mLk fl_RJ0, mLk (xl_J0_isLatin1_aae02.map fun e => (e.1, e.2.1, e.2.2 g)), mLk ([] : List (Nat × mV)), mLk ([(38, .inl 1)] : List (Nat × mV)), some .boolean)
theorem xm_J0_isLatin1_aae02 (g : mG) : mMono (xf_J0_isLatin1_aae02 g) := mMonoL (g := g) (l := xl_J0_isLatin1_aae02) (fun _ h => absurd h List.not_mem_nil) rfl

theorem v_il_t (ga : Nat → Nat) (gD : va_G) (gc : Nat → ClassId) (go : Option Nat) (L : Nat) (ge : List mH) (M : mM) (P : mP) 
    (h : ((1 : Int32) = 0 → ((nI 0) = 0 ∨ (nI 0) = 1) ∧ P (some (.inl (nI 0))) M) ∧ (¬ ((1 : Int32) = 0) → (¬ (M 2 1) = 0 → ((nI 0) = 0 ∨ (nI 0) = 1) ∧ P (some (.inl (nI 0))) M) ∧ (¬ (¬ (M 2 1) = 0) → ((nI 1) = 0 ∨ (nI 1) = 1) ∧ P (some (.inl (nI 1))) M))) :
    mRun (xS sSH (ga, gD, gc, go, (5, 0, [some 3, none, none, none]) :: (3, L, []) :: ge)) (xf_J0_isLatin1_aae02 (ga, gD, gc, go, (5, 0, [some 3, none, none, none]) :: (3, L, []) :: ge)) P (0, [some (.inr (some 2))], [], M) := mRun.vc (xm_J0_isLatin1_aae02 (ga, gD, gc, go, (5, 0, [some 3, none, none, none]) :: (3, L, []) :: ge)) [] 8 h

set_option maxHeartbeats 2000000 in
theorem xrun_J0_isLatin1_aae02 : xRunOf sSH 1 xt_J0_isLatin1_aae02 xf_J0_isLatin1_aae02 := fun g as M P hT => by
  obtain ⟨u, ⟨rfl, hT⟩, hP⟩ := hT
  refine ⟨Nat.le_of_ble_eq_true rfl, ?_⟩
  (try dsimp only at hT)
  rcases hT with ⟨w, hw, e, -⟩ | ⟨-, c1, c0, c2, ge, hg⟩
  · omega
  · obtain ⟨ga, gD, gc, go, gx⟩ := g
    have hg : gx = _ := hg
    subst hg
    exact v_il_t ga gD gc go u.length ge M P ⟨fun w => absurd w (by decide), fun _ => ⟨fun w => absurd c1 w, fun _ => ⟨Or.inr rfl, hP _ _ ⟨rfl, rfl⟩⟩⟩⟩
theorem xsk_J0_isLatin1_aae02 : mStaT RJ0 xf_J0_isLatin1_aae02 := mStaL (l := fun g => ([(38, .inl 1)] : List (Nat × mV))) (fun g => List.forall_mem_cons.mpr ⟨Or.inl ⟨rfl, (show Cond.fieldLink RJ0 38 "java/lang/String" "COMPACT_STRINGS" "Z" ∈ mGW from mIn 420 (by decide +kernel) rfl)⟩, fun _ h => absurd h List.not_mem_nil⟩) (fun _ => rfl)
theorem xok_J0_isLatin1_aae02 : xOK sSH yJ0_isLatin1_aae02 cJ0_isLatin1_aae02 1 (some .boolean) 1 xt_J0_isLatin1_aae02 := xOK.of xf_J0_isLatin1_aae02 (by decide) (fun _ => rfl) (fun g => mCodeOK xkk_J0_isLatin1_aae02) (fun g => mFldL fk_RJ0 rfl) (fun g idx v h => by cases h) xsk_J0_isLatin1_aae02 (xCalL (l := xl_J0_isLatin1_aae02) (fun _ h => absurd h List.not_mem_nil) (fun _ => rfl)) xrun_J0_isLatin1_aae02

theorem xrv_J0_isLatin1_aae02 : xHasR sSH yJ0_isLatin1_aae02 0 xt_J0_isLatin1_aae02 := by
  intro g as M P hT hl
  obtain ⟨q, hq, -⟩ := hT
  first | exact sIsT hq.1 hq.2 | exact sIsT hq.1 hq.2.1

def xpre_J1_charAt_3b067 (q : List Int32 × Nat) (g : mG) (as : List mV) (M : mM) : Prop := as = [.inr (some 3), .inl (nI q.2)] ∧ sTx g M 2 q.1 ∧ sLo q.1 ∧ q.2 < q.1.length
def xpost_J1_charAt_3b067 (q : List Int32 × Nat) (as : List mV) (M : mM) (v : Int32) (M' : mM) : Prop := v = q.1.getD q.2 0 ∧ M' = M
abbrev xt_J1_charAt_3b067 : mG → mT := mGi xpre_J1_charAt_3b067 xpost_J1_charAt_3b067
theorem xmo_J1_charAt_3b067 : mMn xt_J1_charAt_3b067 := mGi_mono

def xk_J1_charAt_3b067 : List (Nat × mI) := [(0, .iload_n 1, 1, 1, 0, []),
  (1, .aload_n 0, 1, 0, 0, []),
  (2, .arraylength, 1, 0, 0, []),
  (3, .invokestatic 9, 3, 0, 0, []),
  (6, .aload_n 0, 1, 0, 0, []),
  (7, .iload_n 1, 1, 1, 0, []),
  (8, .baload, 1, 0, 0, []),
  (9, .sipush 255, 3, 0, nI 255, []),
  (12, .iand, 1, 0, 0, []),
  (13, .i2c, 1, 0, 0, []),
  (14, .ireturn, 1, 0, 0, [])]
theorem xkk_J1_charAt_3b067 : (xk_J1_charAt_3b067.all fun e => mChk cJ1_charAt_3b067 e.1 e.2) = true := by decide +kernel
def xl_J1_charAt_3b067 : List (Nat × Nat × (mG → mT)) := [(3 * 9 + 1, 2, xt_J0_checkIndex_df160)]
def xf_J1_charAt_3b067 (g : mG) : mF := (mLk xk_J1_charAt_3b067, mLk ([] : List (Nat × Nat × Nat × Nat)), mLk (xl_J1_charAt_3b067.map fun e => (e.1, e.2.1, e.2.2 g)), mLk ([] : List (Nat × mV)), mLk ([] : List (Nat × mV)), some .char)
theorem xm_J1_charAt_3b067 (g : mG) : mMono (xf_J1_charAt_3b067 g) := mMonoL (g := g) (l := xl_J1_charAt_3b067) (List.forall_mem_cons.mpr ⟨xmo_J0_checkIndex_df160, fun _ h => absurd h List.not_mem_nil⟩) rfl

theorem v_ca_t (ga : Nat → Nat) (gD : va_G) (gc : Nat → ClassId) (go : Option Nat) (L : Nat) (ge : List mH) (M : mM) (P : mP) (j : Nat)
    (h : ∃ x1 : Nat × Nat, xpre_J0_checkIndex_df160 x1 (ga, gD, gc, go, (5, 0, [some 3, none, none, none]) :: (3, L, []) :: ge) [.inl (nI j), .inl (nI L)] M ∧ ∀ M2 : mM, xpost_J0_checkIndex_df160 x1 [.inl (nI j), .inl (nI L)] M M2 → (vp_in (nI j) L ∧ ((((((M2 3 ((nI j).toNatClampNeg)) &&& (nI 255)).toUInt32 % 65536).toInt32).toUInt32 % 65536).toInt32 = ((((M2 3 ((nI j).toNatClampNeg)) &&& (nI 255)).toUInt32 % 65536).toInt32) ∧ P (some (.inl ((((M2 3 ((nI j).toNatClampNeg)) &&& (nI 255)).toUInt32 % 65536).toInt32))) M2))) :
    mRun (xS sSH (ga, gD, gc, go, (5, 0, [some 3, none, none, none]) :: (3, L, []) :: ge)) (xf_J1_charAt_3b067 (ga, gD, gc, go, (5, 0, [some 3, none, none, none]) :: (3, L, []) :: ge)) P (0, [some (.inr (some 3)), some (.inl (nI j))], [], M) := mRun.vc (xm_J1_charAt_3b067 (ga, gD, gc, go, (5, 0, [some 3, none, none, none]) :: (3, L, []) :: ge)) [] 11 h

set_option maxHeartbeats 2000000 in
theorem xrun_J1_charAt_3b067 : xRunOf sSH 2 xt_J1_charAt_3b067 xf_J1_charAt_3b067 := fun g as M P hT => by
  obtain ⟨⟨u, j⟩, ⟨rfl, hT, hl, hj⟩, hP⟩ := hT
  refine ⟨Nat.le_of_ble_eq_true rfl, ?_⟩
  (try dsimp only at hT hl hj)
  rcases hT with ⟨w, hw, e, -⟩ | ⟨-, c1, c0, c2, ge, hg⟩
  · omega
  · obtain ⟨ga, gD, gc, go, gx⟩ := g
    have hg : gx = _ := hg
    subst hg
    refine v_ca_t ga gD gc go u.length ge M P j ⟨(j, u.length), ⟨rfl, hj, by show u.length < 2 ^ 31; omega⟩, fun M3 h => ?_⟩
    have hM : M3 = M := h
    obtain ⟨k, hk, ek⟩ := hl j hj
    have er : M3 3 (nI j).toNatClampNeg = nI k := by rw [hM, nI_clamp (by omega), c0 j hj, ek]
    rw [er]
    refine ⟨vp_in_nI (by omega) (by omega), ?_, ?_⟩
    · rw [ch7 k hk, ch7c k hk]
    · rw [ch7 k hk]
      exact hP _ _ ⟨ek.symm, hM⟩
theorem xok_J1_charAt_3b067 : xOK sSH yJ1_charAt_3b067 cJ1_charAt_3b067 2 (some .char) 3 xt_J1_charAt_3b067 := xOK.of xf_J1_charAt_3b067 (by decide) (fun _ => rfl) (fun g => mCodeOK xkk_J1_charAt_3b067) (fun g => mFldL (l := []) (fun _ h => absurd h List.not_mem_nil) rfl) (fun g idx v h => by cases h) (fun g idx v h => by cases h) (xCalL (l := xl_J1_charAt_3b067) (List.forall_mem_cons.mpr ⟨xSite.S (idx := 9) xok_J0_checkIndex_df160 (fun _ h => h) (by decide) (by decide) wc_J0_checkIndex_df160 wk_RJ1_9 wt_J0_checkIndex_df160 wn_RJ0 wd_J0_checkIndex_df160, fun _ h => absurd h List.not_mem_nil⟩) (fun _ => rfl)) xrun_J1_charAt_3b067

def xpre_J0_charAt_5068e (q : List Int32 × Nat) (g : mG) (as : List mV) (M : mM) : Prop := as = [.inr (some 2), .inl (nI q.2)] ∧ sTx g M 2 q.1 ∧ sLo q.1 ∧ q.2 < q.1.length
def xpost_J0_charAt_5068e (q : List Int32 × Nat) (as : List mV) (M : mM) (v : Int32) (M' : mM) : Prop := v = q.1.getD q.2 0 ∧ M' = M
abbrev xt_J0_charAt_5068e : mG → mT := mGi xpre_J0_charAt_5068e xpost_J0_charAt_5068e
theorem xmo_J0_charAt_5068e : mMn xt_J0_charAt_5068e := mGi_mono

def xk_J0_charAt_5068e : List (Nat × mI) := [(0, .aload_n 0, 1, 0, 0, []),
  (1, .invokevirtual 492, 3, 0, 0, []),
  (4, .ifCond .eq 12, 3, 16, 0, []),
  (7, .aload_n 0, 1, 0, 0, []),
  (8, .getfield 9, 3, 0, 0, []),
  (11, .iload_n 1, 1, 1, 0, []),
  (12, .invokestatic 495, 3, 0, 0, []),
  (15, .ireturn, 1, 0, 0, []),
  (16, .aload_n 0, 1, 0, 0, []),
  (17, .getfield 9, 3, 0, 0, []),
  (20, .iload_n 1, 1, 1, 0, []),
  (21, .invokestatic 498, 3, 0, 0, []),
  (24, .ireturn, 1, 0, 0, [])]
theorem xkk_J0_charAt_5068e : (xk_J0_charAt_5068e.all fun e => mChk cJ0_charAt_5068e e.1 e.2) = true := by decide +kernel
def xl_J0_charAt_5068e : List (Nat × Nat × (mG → mT)) := [(3 * 492, 0 + 1, xt_J0_isLatin1_aae02), (3 * 495 + 1, 2, xt_J1_charAt_3b067)]
def xf_J0_charAt_5068e (g : mG) : mF := (mLk xk_J0_charAt_5068e, mLk fl_RJ0, mLk (xl_J0_charAt_5068e.map fun e => (e.1, e.2.1, e.2.2 g)), mLk ([] : List (Nat × mV)), mLk ([] : List (Nat × mV)), some .char)
theorem xm_J0_charAt_5068e (g : mG) : mMono (xf_J0_charAt_5068e g) := mMonoL (g := g) (l := xl_J0_charAt_5068e) (List.forall_mem_cons.mpr ⟨xmo_J0_isLatin1_aae02, List.forall_mem_cons.mpr ⟨xmo_J1_charAt_3b067, fun _ h => absurd h List.not_mem_nil⟩⟩) rfl

theorem v_cs_t (ga : Nat → Nat) (gD : va_G) (gc : Nat → ClassId) (go : Option Nat) (L : Nat) (ge : List mH) (M : mM) (P : mP) (j : Nat)
    (h : ∃ x1 : List Int32, xpre_J0_isLatin1_aae02 x1 (ga, gD, gc, go, (5, 0, [some 3, none, none, none]) :: (3, L, []) :: ge) [.inr (some 2)] M ∧ ∀ (r3 : Int32) (M2 : mM), xpost_J0_isLatin1_aae02 x1 [.inr (some 2)] M r3 M2 → ((r3 = 0 → False) ∧ (¬ (r3 = 0) → ∃ x5 : List Int32 × Nat, xpre_J1_charAt_3b067 x5 (ga, gD, gc, go, (5, 0, [some 3, none, none, none]) :: (3, L, []) :: ge) [.inr (some 3), .inl (nI j)] M2 ∧ ∀ (r7 : Int32) (M6 : mM), xpost_J1_charAt_3b067 x5 [.inr (some 3), .inl (nI j)] M2 r7 M6 → ((r7.toUInt32 % 65536).toInt32 = r7 ∧ P (some (.inl r7)) M6)))) :
    mRun (xS sSH (ga, gD, gc, go, (5, 0, [some 3, none, none, none]) :: (3, L, []) :: ge)) (xf_J0_charAt_5068e (ga, gD, gc, go, (5, 0, [some 3, none, none, none]) :: (3, L, []) :: ge)) P (0, [some (.inr (some 2)), some (.inl (nI j))], [], M) := mRun.vc (xm_J0_charAt_5068e (ga, gD, gc, go, (5, 0, [some 3, none, none, none]) :: (3, L, []) :: ge)) [] 8 h

set_option maxHeartbeats 2000000 in
theorem xrun_J0_charAt_5068e : xRunOf sSH 2 xt_J0_charAt_5068e xf_J0_charAt_5068e := fun g as M P hT => by
  obtain ⟨⟨u, j⟩, ⟨rfl, hT, hl, hj⟩, hP⟩ := hT
  refine ⟨Nat.le_of_ble_eq_true rfl, ?_⟩
  (try dsimp only at hT hl hj)
  rcases hT with ⟨w, hw, e, -⟩ | ⟨-, c1, c0, c2, ge, hg⟩
  · omega
  · obtain ⟨ga, gD, gc, go, gx⟩ := g
    have hg : gx = _ := hg
    subst hg
    have hT : sTx (ga, gD, gc, go, (5, 0, [some 3, none, none, none]) :: (3, u.length, []) :: ge) M 2 u := Or.inr ⟨rfl, c1, c0, c2, ge, rfl⟩
    refine v_cs_t ga gD gc go u.length ge M P j ⟨u, ⟨rfl, hT⟩, fun r M2 h => ?_⟩
    obtain ⟨e1, e2⟩ : r = nI 1 ∧ M2 = M := h
    rw [e1, e2]
    refine ⟨fun w => absurd w (by decide), fun _ => ⟨(u, j), ⟨rfl, hT, hl, hj⟩, fun r2 M4 h => ?_⟩⟩
    obtain ⟨h1, h2⟩ : r2 = u.getD j 0 ∧ M4 = M := h
    obtain ⟨k, hk, ek⟩ := hl j hj
    exact ⟨by rw [h1, ek, ch7c k hk], hP _ _ ⟨h1, h2⟩⟩
theorem xok_J0_charAt_5068e : xOK sSH yJ0_charAt_5068e cJ0_charAt_5068e 2 (some .char) 4 xt_J0_charAt_5068e := xOK.of xf_J0_charAt_5068e (by decide) (fun _ => rfl) (fun g => mCodeOK xkk_J0_charAt_5068e) (fun g => mFldL fk_RJ0 rfl) (fun g idx v h => by cases h) (fun g idx v h => by cases h) (xCalL (l := xl_J0_charAt_5068e) (List.forall_mem_cons.mpr ⟨xSite.V (idx := 492) xok_J0_isLatin1_aae02 (fun _ h => h) (by decide) (by decide) xrv_J0_isLatin1_aae02 wc_J0_isLatin1_aae02 wk_RJ0_492 wi_J0_isLatin1_aae02 wl_J0_isLatin1_aae02 wn_RJ0 wd_J0_isLatin1_aae02, List.forall_mem_cons.mpr ⟨xSite.S (idx := 495) xok_J1_charAt_3b067 (fun _ h => h) (by decide) (by decide) wc_J1_charAt_3b067 wk_RJ0_495 wt_J1_charAt_3b067 wn_RJ1 wd_J1_charAt_3b067, fun _ h => absurd h List.not_mem_nil⟩⟩) (fun _ => rfl)) xrun_J0_charAt_5068e

theorem xrv_J0_charAt_5068e : xHasR sSH yJ0_charAt_5068e 1 xt_J0_charAt_5068e := by
  intro g as M P hT hl
  obtain ⟨q, hq, -⟩ := hT
  first | exact sIsT hq.1 hq.2 | exact sIsT hq.1 hq.2.1
