/-! ===== THE SMALL FUNCTIONS ===== -/
def fIn (v lo hi : Int32) : Int32 := mb (lo ≤ v ∧ v ≤ hi)
def fByte (v : Int32) : Int32 := mb (0 ≤ v ∧ v ≤ nI 255)
def fCard (c : Int32) : Int32 := mb (0 ≤ c ∧ c < nI 32)
def fHouse (h : Int32) : Int32 := mb (0 ≤ h ∧ h < nI 6)
def fNext (z : Int32) : Int32 := z * nI 1103515245 + nI 12345
def fBit (c : Int32) : Int32 := if 0 ≤ c ∧ c < nI 32 then nI 1 <<< (c &&& 31) else nI 0
def fSuit (s : Int32) : Int32 := if 0 ≤ s ∧ s < nI 4 then nI 255 <<< ((nI 8 * s) &&& 31) else nI 0
def fStr (c t how : Int32) : Int32 :=
  if how = nI 1 then nI 7 - (c - c / nI 8 * nI 8)
  else if how = nI 2 ∧ nI 3 ≤ c - c / nI 8 * nI 8 ∧ c - c / nI 8 * nI 8 < nI 7 then (if c - c / nI 8 * nI 8 = nI 3 then nI 6 else c - c / nI 8 * nI 8 - nI 1)
  else if how = nI 3 ∧ c / nI 8 = t then (if c - c / nI 8 * nI 8 = nI 4 then nI 7 else if c - c / nI 8 * nI 8 = nI 2 then nI 6 else c - c / nI 8 * nI 8 - (if nI 2 < c - c / nI 8 * nI 8 then nI 1 else nI 0) - (if nI 4 < c - c / nI 8 * nI 8 then nI 1 else nI 0))
  else c - c / nI 8 * nI 8
def fPlain (m b : Int32) : Int32 := if m < b then nI 10 * (m - b) else nI 10 * b + nI 2 * (m - b)
def fBold (m b : Int32) : Int32 := fPlain m b + (if b < nI 7 then nI 0 else if m < b then nI 0 else nI 20)
def fSharp (m b : Int32) : Int32 := if 0 ≤ fPlain m b then fPlain m b else nI 2 * fPlain m b
def fTimes (d : Int32) : Int32 := if d = nI 2 then nI 4 else if d = nI 1 then nI 2 else nI 1
def fBase (h m b t : Int32) : Int32 := if h = nI 0 then fPlain m b else if h = nI 1 then fBold m b else if h = nI 2 then fSharp m b else if h = nI 3 then fBold m b + (if m = nI 8 then nI 50 else nI 0) else if h = nI 4 then fSharp m b - (if b < m then nI 2 * (m - b) else nI 0) else fPlain m b + (if t = nI 4 then nI 5 else nI 0)
def fScore (h m b t d : Int32) : Int32 := fTimes d * fBase h m b t
def fSide (x : Int32) : Int32 := x - x / nI 2 * nI 2
def fSh1 (c : Int32) : Int32 := nI 1 <<< (c &&& 31)
def fHas (s c : Int32) : Int32 := mb ((s.toUInt32 >>> (c.toUInt32 &&& Int32.toUInt32 31)).toInt32 &&& nI 1 = nI 1)
def fStrB (c t how : Int32) : Int32 :=
  if how = nI 1 then nI 2 * (nI 7 - (c - c / nI 8 * nI 8))
  else if how = nI 2 ∧ c - c / nI 8 * nI 8 = nI 3 then nI 13
  else if how = nI 3 ∧ c / nI 8 = t ∧ c - c / nI 8 * nI 8 = nI 4 then nI 20
  else if how = nI 3 ∧ c / nI 8 = t ∧ c - c / nI 8 * nI 8 = nI 2 then nI 18
  else nI 2 * (c - c / nI 8 * nI 8)
def fOfS (s u : Int32) : Int32 := if u = nI 4 then nI 0 else s &&& (nI 255 <<< ((nI 8 * u) &&& 31))
def fScoreB (h m b t d : Int32) : Int32 := fBase h m b t * (if d = nI 0 then nI 1 else nI 2 * d)

theorem fa_lt (a b : Int32) : a < b ↔ a.toInt < b.toInt := Int32.lt_iff_toInt_lt
theorem fa_le (a b : Int32) : a ≤ b ↔ a.toInt ≤ b.toInt := Int32.le_iff_toInt_le
theorem fa_eq (a b : Int32) : a = b ↔ a.toInt = b.toInt := Int32.toInt_inj.symm
theorem mP_eq {P : mP} {x y : Int32} {M : mM} (h : P (some (.inl y)) M) (e : x = y) : P (some (.inl x)) M := by
  rw [e]
  exact h
theorem mUp_same {M : mM} {a : Nat} : mUp M a (M a) = M := by
  funext c
  unfold mUp
  split
  · rename_i h
    rw [h]
  · rfl
theorem mSH_small {a n k : Nat} {rs : List (Option Nat)} (h : mSH[a]? = some (k, n, rs)) : n < 2 ^ 31 := by
  have hl : a < mSH.length := (List.getElem?_eq_some_iff.mp h).1
  have hall : ∀ e ∈ mSH, e.2.1 < 2 ^ 31 := by decide +kernel
  exact hall _ (List.mem_of_getElem? h)

def cs_RX7 : List (Nat × mV) := [(326, .inr (some 1000)), (328, .inr (some 1001)), (330, .inr (some 1002)), (332, .inr (some 1003)), (334, .inr (some 1004)), (336, .inr (some 1005)), (337, .inr (some 1006)), (339, .inr (some 1007)), (341, .inr (some 1008)), (343, .inr (some 1009)), (388, .inl (nI 1103515245))]
theorem ck_RX7 : ∀ e ∈ cs_RX7, mCstE RX7 e := List.forall_mem_cons.mpr ⟨Or.inr ⟨0, "deal", rfl, by decide +kernel⟩, List.forall_mem_cons.mpr ⟨Or.inr ⟨1, "bid", rfl, by decide +kernel⟩, List.forall_mem_cons.mpr ⟨Or.inr ⟨2, "pass", rfl, by decide +kernel⟩, List.forall_mem_cons.mpr ⟨Or.inr ⟨3, "double", rfl, by decide +kernel⟩, List.forall_mem_cons.mpr ⟨Or.inr ⟨4, "redouble", rfl, by decide +kernel⟩, List.forall_mem_cons.mpr ⟨Or.inr ⟨5, "play", rfl, by decide +kernel⟩, List.forall_mem_cons.mpr ⟨Or.inr ⟨6, "claim", rfl, by decide +kernel⟩, List.forall_mem_cons.mpr ⟨Or.inr ⟨7, "rank", rfl, by decide +kernel⟩, List.forall_mem_cons.mpr ⟨Or.inr ⟨8, "rule", rfl, by decide +kernel⟩, List.forall_mem_cons.mpr ⟨Or.inr ⟨9, "", rfl, by decide +kernel⟩, List.forall_mem_cons.mpr ⟨Or.inl ⟨_, rfl, mIn 612 (by decide +kernel) rfl⟩, fun _ h => absurd h List.not_mem_nil⟩⟩⟩⟩⟩⟩⟩⟩⟩⟩⟩
def cs_RX8 : List (Nat × mV) := [(170, .inl (nI 1103515245)), (243, .inr (some 1000)), (245, .inr (some 1001)), (246, .inr (some 1002)), (248, .inr (some 1003)), (250, .inr (some 1004)), (252, .inr (some 1005)), (254, .inr (some 1006)), (256, .inr (some 1007)), (258, .inr (some 1008)), (267, .inr (some 1010)), (269, .inr (some 1011)), (271, .inr (some 1012)), (273, .inr (some 1013)), (275, .inr (some 1014)), (304, .inl (nI 999999)), (326, .inr (some 1015)), (335, .inr (some 1016))]
theorem ck_RX8 : ∀ e ∈ cs_RX8, mCstE RX8 e := List.forall_mem_cons.mpr ⟨Or.inl ⟨_, rfl, mIn 1323 (by decide +kernel) rfl⟩, List.forall_mem_cons.mpr ⟨Or.inr ⟨0, "deal", rfl, by decide +kernel⟩, List.forall_mem_cons.mpr ⟨Or.inr ⟨1, "bid", rfl, by decide +kernel⟩, List.forall_mem_cons.mpr ⟨Or.inr ⟨2, "pass", rfl, by decide +kernel⟩, List.forall_mem_cons.mpr ⟨Or.inr ⟨3, "double", rfl, by decide +kernel⟩, List.forall_mem_cons.mpr ⟨Or.inr ⟨4, "redouble", rfl, by decide +kernel⟩, List.forall_mem_cons.mpr ⟨Or.inr ⟨5, "play", rfl, by decide +kernel⟩, List.forall_mem_cons.mpr ⟨Or.inr ⟨6, "claim", rfl, by decide +kernel⟩, List.forall_mem_cons.mpr ⟨Or.inr ⟨7, "rank", rfl, by decide +kernel⟩, List.forall_mem_cons.mpr ⟨Or.inr ⟨8, "rule", rfl, by decide +kernel⟩, List.forall_mem_cons.mpr ⟨Or.inr ⟨10, "c", rfl, by decide +kernel⟩, List.forall_mem_cons.mpr ⟨Or.inr ⟨11, "d", rfl, by decide +kernel⟩, List.forall_mem_cons.mpr ⟨Or.inr ⟨12, "h", rfl, by decide +kernel⟩, List.forall_mem_cons.mpr ⟨Or.inr ⟨13, "s", rfl, by decide +kernel⟩, List.forall_mem_cons.mpr ⟨Or.inr ⟨14, "n", rfl, by decide +kernel⟩, List.forall_mem_cons.mpr ⟨Or.inl ⟨_, rfl, mIn 1301 (by decide +kernel) rfl⟩, List.forall_mem_cons.mpr ⟨Or.inr ⟨15, "cdhsn", rfl, by decide +kernel⟩, List.forall_mem_cons.mpr ⟨Or.inr ⟨16, " ", rfl, by decide +kernel⟩, fun _ h => absurd h List.not_mem_nil⟩⟩⟩⟩⟩⟩⟩⟩⟩⟩⟩⟩⟩⟩⟩⟩⟩⟩
def cs_RJ6 : List (Nat × mV) := [(265, .inl (nI 1431655765)), (266, .inl (nI 858993459)), (267, .inl (nI 252645135))]
theorem ck_RJ6 : ∀ e ∈ cs_RJ6, mCstE RJ6 e := List.forall_mem_cons.mpr ⟨Or.inl ⟨_, rfl, mIn 560 (by decide +kernel) rfl⟩, List.forall_mem_cons.mpr ⟨Or.inl ⟨_, rfl, mIn 561 (by decide +kernel) rfl⟩, List.forall_mem_cons.mpr ⟨Or.inl ⟨_, rfl, mIn 562 (by decide +kernel) rfl⟩, fun _ h => absurd h List.not_mem_nil⟩⟩⟩
def k_X7_at : List (Nat × mI) := [(0, .iload_n 1, 1, 1, 0, []),
  (1, .ifCond .lt 15, 3, 16, 0, []),
  (4, .iload_n 1, 1, 1, 0, []),
  (5, .aload_n 0, 1, 0, 0, []),
  (6, .arraylength, 1, 1, 0, []),
  (7, .if_icmp .ge 9, 3, 16, 0, []),
  (10, .aload_n 0, 1, 0, 0, []),
  (11, .iload_n 1, 1, 1, 0, []),
  (12, .iaload, 1, 1, 0, []),
  (13, .goto 4, 3, 17, 0, []),
  (16, .iconst 0, 1, 0, nI 0, []),
  (17, .ireturn, 1, 0, 0, [])]
theorem kk_X7_at : (k_X7_at.all fun e => mChk cX7_at e.1 e.2) = true := by decide +kernel
def l_X7_at : List (Nat × Nat × (mG → mT)) := []
def f_X7_at (g : mG) : mF := (mLk k_X7_at, mLk fl_RX7, mLk (l_X7_at.map fun e => (e.1, e.2.1, e.2.2 g)), mLk ([] : List (Nat × mV)), mLk ([] : List (Nat × mV)), some .int)
theorem m_X7_at (g : mG) : mMono (f_X7_at g) := mMonoL (g := g) (l := l_X7_at) (fun _ h => absurd h List.not_mem_nil) rfl

theorem v_X7_at (g : mG) (M : mM) (P : mP) (a : Nat) (i : Int32)
    (h : (i < 0 → P (some (.inl (nI 0))) M) ∧ (¬ i < 0 → ∃ (n1 : Nat) (rs2 : List (Option Nat)), mRoA a = none ∧ (mSx g)[a]? = some (0, n1, rs2) ∧ (((nI n1) ≤ i → P (some (.inl (nI 0))) M) ∧ (¬ (nI n1) ≤ i → ∃ (n3 : Nat) (rs4 : List (Option Nat)), (mSx g)[a]? = some (0, n3, rs4) ∧ vp_in i n3 ∧ (P (some (.inl (M a i.toNatClampNeg))) M))))) :
    mRun (mSx g) (f_X7_at g) P (0, [some (.inr (some a)), some (.inl i)], [], M) := mRun.vc (m_X7_at g) [] 11 h

theorem run_X7_at : mRunOf 2 t_X7_at f_X7_at := fun g as M P hT => by
  unfold t_X7_at at hT
  split at hT
  · rename_i a i
    split at hT
    · rename_i n rs ha
      refine ⟨Nat.le_refl _, v_X7_at g M P a i ⟨fun h1 => ?_, fun h1 => ⟨n, rs, (mSH_no ha).1, mSx_at ha, fun h2 => ?_, fun h2 => ⟨n, rs, mSx_at ha, ?_, ?_⟩⟩⟩⟩
      · unfold aAt at hT
        rw [if_neg (fun z => absurd h1 (by rw [Int32.not_lt]; exact z.1))] at hT
        exact hT
      · unfold aAt at hT
        rw [if_neg (fun z => absurd z.2 (by rw [Int32.not_lt]; exact h2))] at hT
        exact hT
      · rw [Int32.not_lt] at h1
        rw [Int32.not_le] at h2
        intro z
        rcases z with z | z
        · exact absurd z (by rw [Int32.not_lt]; exact h1)
        · have hn : n < 2 ^ 31 := mSH_small ha
          obtain ⟨j, hj, rfl⟩ := nI_of (by rw [Int32.not_lt]; exact h1)
          rw [nI_clamp hj] at z
          exact absurd h2 (nI_nlt z hj)
      · unfold aAt at hT
        rw [Int32.not_lt] at h1
        rw [Int32.not_le] at h2
        rw [if_pos ⟨h1, h2⟩] at hT
        exact hT
    · exact hT.elim
  · exact hT.elim
theorem ok_X7_at : mOK yX7_at cX7_at 2 (some .int) 1 t_X7_at := mOK.of f_X7_at (by decide) (fun _ => rfl) (fun g => mCodeOK kk_X7_at) (fun g => mFldL fk_RX7 rfl) (fun g idx v h => by cases h) (fun g idx v h => by cases h) (mCalL (l := l_X7_at) (fun _ h => absurd h List.not_mem_nil) (fun _ => rfl)) run_X7_at

def k_X7_set : List (Nat × mI) := [(0, .iload_n 1, 1, 1, 0, []),
  (1, .ifCond .lt 13, 3, 14, 0, []),
  (4, .iload_n 1, 1, 1, 0, []),
  (5, .aload_n 0, 1, 0, 0, []),
  (6, .arraylength, 1, 1, 0, []),
  (7, .if_icmp .ge 7, 3, 14, 0, []),
  (10, .aload_n 0, 1, 0, 0, []),
  (11, .iload_n 1, 1, 1, 0, []),
  (12, .iload_n 2, 1, 2, 0, []),
  (13, .iastore, 1, 1, 0, []),
  (14, .return_, 1, 0, 0, [])]
theorem kk_X7_set : (k_X7_set.all fun e => mChk cX7_set e.1 e.2) = true := by decide +kernel
def l_X7_set : List (Nat × Nat × (mG → mT)) := []
def f_X7_set (g : mG) : mF := (mLk k_X7_set, mLk fl_RX7, mLk (l_X7_set.map fun e => (e.1, e.2.1, e.2.2 g)), mLk ([] : List (Nat × mV)), mLk ([] : List (Nat × mV)), none)
theorem m_X7_set (g : mG) : mMono (f_X7_set g) := mMonoL (g := g) (l := l_X7_set) (fun _ h => absurd h List.not_mem_nil) rfl

theorem v_X7_set (g : mG) (M : mM) (P : mP) (a : Nat) (i v : Int32)
    (h : (i < 0 → P none M) ∧ (¬ i < 0 → ∃ (n1 : Nat) (rs2 : List (Option Nat)), mRoA a = none ∧ (mSx g)[a]? = some (0, n1, rs2) ∧ (((nI n1) ≤ i → P none M) ∧ (¬ (nI n1) ≤ i → ∃ (n3 : Nat) (rs4 : List (Option Nat)), (mSx g)[a]? = some (0, n3, rs4) ∧ vp_in i n3 ∧ (let M5 : mM := mW1 M a i.toNatClampNeg v; P none M5))))) :
    mRun (mSx g) (f_X7_set g) P (0, [some (.inr (some a)), some (.inl i), some (.inl v)], [], M) := mRun.vc (m_X7_set g) [] 11 h

theorem run_X7_set : mRunOf 3 t_X7_set f_X7_set := fun g as M P hT => by
  unfold t_X7_set at hT
  split at hT
  · rename_i a i v
    split at hT
    · rename_i n rs ha
      refine ⟨Nat.le_refl _, v_X7_set g M P a i v ⟨fun h1 => ?_, fun h1 => ⟨n, rs, (mSH_no ha).1, mSx_at ha, fun h2 => ?_, fun h2 => ⟨n, rs, mSx_at ha, ?_, ?_⟩⟩⟩⟩
      · unfold aSet at hT
        rw [if_neg (fun z => absurd h1 (by rw [Int32.not_lt]; exact z.1)), mUp_same] at hT
        exact hT
      · unfold aSet at hT
        rw [if_neg (fun z => absurd z.2 (by rw [Int32.not_lt]; exact h2)), mUp_same] at hT
        exact hT
      · rw [Int32.not_lt] at h1
        rw [Int32.not_le] at h2
        intro z
        rcases z with z | z
        · exact absurd z (by rw [Int32.not_lt]; exact h1)
        · have hn : n < 2 ^ 31 := mSH_small ha
          obtain ⟨j, hj, rfl⟩ := nI_of (by rw [Int32.not_lt]; exact h1)
          rw [nI_clamp hj] at z
          exact absurd h2 (nI_nlt z hj)
      · unfold aSet at hT
        rw [Int32.not_lt] at h1
        rw [Int32.not_le] at h2
        rw [if_pos ⟨h1, h2⟩] at hT
        exact hT
    · exact hT.elim
  · exact hT.elim
theorem ok_X7_set : mOK yX7_set cX7_set 3 (none) 1 t_X7_set := mOK.of f_X7_set (by decide) (fun _ => rfl) (fun g => mCodeOK kk_X7_set) (fun g => mFldL fk_RX7 rfl) (fun g idx v h => by cases h) (fun g idx v h => by cases h) (mCalL (l := l_X7_set) (fun _ h => absurd h List.not_mem_nil) (fun _ => rfl)) run_X7_set

abbrev t_X7_isByte : mG → mT := mP1 fByte
theorem mo_X7_isByte : mMn t_X7_isByte := mP1_mono
def k_X7_isByte : List (Nat × mI) := [(0, .iload_n 0, 1, 0, 0, []),
  (1, .ifCond .lt 14, 3, 15, 0, []),
  (4, .iload_n 0, 1, 0, 0, []),
  (5, .sipush 255, 3, 0, nI 255, []),
  (8, .if_icmp .gt 7, 3, 15, 0, []),
  (11, .iconst 1, 1, 0, nI 1, []),
  (12, .goto 4, 3, 16, 0, []),
  (15, .iconst 0, 1, 0, nI 0, []),
  (16, .ireturn, 1, 0, 0, [])]
theorem kk_X7_isByte : (k_X7_isByte.all fun e => mChk cX7_isByte e.1 e.2) = true := by decide +kernel
def l_X7_isByte : List (Nat × Nat × (mG → mT)) := []
def f_X7_isByte (g : mG) : mF := (mLk k_X7_isByte, mLk fl_RX7, mLk (l_X7_isByte.map fun e => (e.1, e.2.1, e.2.2 g)), mLk ([] : List (Nat × mV)), mLk ([] : List (Nat × mV)), some .boolean)
theorem m_X7_isByte (g : mG) : mMono (f_X7_isByte g) := mMonoL (g := g) (l := l_X7_isByte) (fun _ h => absurd h List.not_mem_nil) rfl

theorem v_X7_isByte (g : mG) (M : mM) (P : mP) (x : Int32)
    (h : (x < 0 → ((nI 0) = 0 ∨ (nI 0) = 1) ∧ P (some (.inl (nI 0))) M) ∧ (¬ x < 0 → ((nI 255) < x → ((nI 0) = 0 ∨ (nI 0) = 1) ∧ P (some (.inl (nI 0))) M) ∧ (¬ (nI 255) < x → ((nI 1) = 0 ∨ (nI 1) = 1) ∧ P (some (.inl (nI 1))) M))) :
    mRun (mSx g) (f_X7_isByte g) P (0, [some (.inl x)], [], M) := mRun.vc (m_X7_isByte g) [] 8 h

set_option maxHeartbeats 4000000 in
theorem run_X7_isByte : mRunOf 1 t_X7_isByte f_X7_isByte := runP1 (by decide) (fun g M P x h => v_X7_isByte g M P x (by
    (repeat' (first | (refine ⟨?_, ?_⟩) | (intro _)))
    all_goals first | decide | (refine mP_eq h ?_; unfold fByte; (try unfold mb); (repeat' split) <;> first | rfl | (simp_all; done) | (exfalso; simp (disch := decide) only [fa_lt, fa_le, fa_eq, nI_toInt, Int32.toInt_zero] at * <;> omega)) | (exfalso; simp (disch := decide) only [fa_lt, fa_le, fa_eq, nI_toInt, Int32.toInt_zero] at * <;> omega) | skip))
theorem ok_X7_isByte : mOK yX7_isByte cX7_isByte 1 (some .boolean) 1 t_X7_isByte := mOK.of f_X7_isByte (by decide) (fun _ => rfl) (fun g => mCodeOK kk_X7_isByte) (fun g => mFldL fk_RX7 rfl) (fun g idx v h => by cases h) (fun g idx v h => by cases h) (mCalL (l := l_X7_isByte) (fun _ h => absurd h List.not_mem_nil) (fun _ => rfl)) run_X7_isByte

abbrev t_X7_isCard : mG → mT := mP1 fCard
theorem mo_X7_isCard : mMn t_X7_isCard := mP1_mono
def k_X7_isCard : List (Nat × mI) := [(0, .iload_n 0, 1, 0, 0, []),
  (1, .ifCond .lt 13, 3, 14, 0, []),
  (4, .iload_n 0, 1, 0, 0, []),
  (5, .bipush 32, 2, 0, nI 32, []),
  (7, .if_icmp .ge 7, 3, 14, 0, []),
  (10, .iconst 1, 1, 0, nI 1, []),
  (11, .goto 4, 3, 15, 0, []),
  (14, .iconst 0, 1, 0, nI 0, []),
  (15, .ireturn, 1, 0, 0, [])]
theorem kk_X7_isCard : (k_X7_isCard.all fun e => mChk cX7_isCard e.1 e.2) = true := by decide +kernel
def l_X7_isCard : List (Nat × Nat × (mG → mT)) := []
def f_X7_isCard (g : mG) : mF := (mLk k_X7_isCard, mLk fl_RX7, mLk (l_X7_isCard.map fun e => (e.1, e.2.1, e.2.2 g)), mLk ([] : List (Nat × mV)), mLk ([] : List (Nat × mV)), some .boolean)
theorem m_X7_isCard (g : mG) : mMono (f_X7_isCard g) := mMonoL (g := g) (l := l_X7_isCard) (fun _ h => absurd h List.not_mem_nil) rfl

theorem v_X7_isCard (g : mG) (M : mM) (P : mP) (x : Int32)
    (h : (x < 0 → ((nI 0) = 0 ∨ (nI 0) = 1) ∧ P (some (.inl (nI 0))) M) ∧ (¬ x < 0 → ((nI 32) ≤ x → ((nI 0) = 0 ∨ (nI 0) = 1) ∧ P (some (.inl (nI 0))) M) ∧ (¬ (nI 32) ≤ x → ((nI 1) = 0 ∨ (nI 1) = 1) ∧ P (some (.inl (nI 1))) M))) :
    mRun (mSx g) (f_X7_isCard g) P (0, [some (.inl x)], [], M) := mRun.vc (m_X7_isCard g) [] 8 h

set_option maxHeartbeats 4000000 in
theorem run_X7_isCard : mRunOf 1 t_X7_isCard f_X7_isCard := runP1 (by decide) (fun g M P x h => v_X7_isCard g M P x (by
    (repeat' (first | (refine ⟨?_, ?_⟩) | (intro _)))
    all_goals first | decide | (refine mP_eq h ?_; unfold fCard; (try unfold mb); (repeat' split) <;> first | rfl | (simp_all; done) | (exfalso; simp (disch := decide) only [fa_lt, fa_le, fa_eq, nI_toInt, Int32.toInt_zero] at * <;> omega)) | (exfalso; simp (disch := decide) only [fa_lt, fa_le, fa_eq, nI_toInt, Int32.toInt_zero] at * <;> omega) | skip))
theorem ok_X7_isCard : mOK yX7_isCard cX7_isCard 1 (some .boolean) 1 t_X7_isCard := mOK.of f_X7_isCard (by decide) (fun _ => rfl) (fun g => mCodeOK kk_X7_isCard) (fun g => mFldL fk_RX7 rfl) (fun g idx v h => by cases h) (fun g idx v h => by cases h) (mCalL (l := l_X7_isCard) (fun _ h => absurd h List.not_mem_nil) (fun _ => rfl)) run_X7_isCard

abbrev t_X7_isHouse : mG → mT := mP1 fHouse
theorem mo_X7_isHouse : mMn t_X7_isHouse := mP1_mono
def k_X7_isHouse : List (Nat × mI) := [(0, .iload_n 0, 1, 0, 0, []),
  (1, .ifCond .lt 13, 3, 14, 0, []),
  (4, .iload_n 0, 1, 0, 0, []),
  (5, .bipush 6, 2, 0, nI 6, []),
  (7, .if_icmp .ge 7, 3, 14, 0, []),
  (10, .iconst 1, 1, 0, nI 1, []),
  (11, .goto 4, 3, 15, 0, []),
  (14, .iconst 0, 1, 0, nI 0, []),
  (15, .ireturn, 1, 0, 0, [])]
theorem kk_X7_isHouse : (k_X7_isHouse.all fun e => mChk cX7_isHouse e.1 e.2) = true := by decide +kernel
def l_X7_isHouse : List (Nat × Nat × (mG → mT)) := []
def f_X7_isHouse (g : mG) : mF := (mLk k_X7_isHouse, mLk fl_RX7, mLk (l_X7_isHouse.map fun e => (e.1, e.2.1, e.2.2 g)), mLk ([] : List (Nat × mV)), mLk ([] : List (Nat × mV)), some .boolean)
theorem m_X7_isHouse (g : mG) : mMono (f_X7_isHouse g) := mMonoL (g := g) (l := l_X7_isHouse) (fun _ h => absurd h List.not_mem_nil) rfl

theorem v_X7_isHouse (g : mG) (M : mM) (P : mP) (x : Int32)
    (h : (x < 0 → ((nI 0) = 0 ∨ (nI 0) = 1) ∧ P (some (.inl (nI 0))) M) ∧ (¬ x < 0 → ((nI 6) ≤ x → ((nI 0) = 0 ∨ (nI 0) = 1) ∧ P (some (.inl (nI 0))) M) ∧ (¬ (nI 6) ≤ x → ((nI 1) = 0 ∨ (nI 1) = 1) ∧ P (some (.inl (nI 1))) M))) :
    mRun (mSx g) (f_X7_isHouse g) P (0, [some (.inl x)], [], M) := mRun.vc (m_X7_isHouse g) [] 8 h

set_option maxHeartbeats 4000000 in
theorem run_X7_isHouse : mRunOf 1 t_X7_isHouse f_X7_isHouse := runP1 (by decide) (fun g M P x h => v_X7_isHouse g M P x (by
    (repeat' (first | (refine ⟨?_, ?_⟩) | (intro _)))
    all_goals first | decide | (refine mP_eq h ?_; unfold fHouse; (try unfold mb); (repeat' split) <;> first | rfl | (simp_all; done) | (exfalso; simp (disch := decide) only [fa_lt, fa_le, fa_eq, nI_toInt, Int32.toInt_zero] at * <;> omega)) | (exfalso; simp (disch := decide) only [fa_lt, fa_le, fa_eq, nI_toInt, Int32.toInt_zero] at * <;> omega) | skip))
theorem ok_X7_isHouse : mOK yX7_isHouse cX7_isHouse 1 (some .boolean) 1 t_X7_isHouse := mOK.of f_X7_isHouse (by decide) (fun _ => rfl) (fun g => mCodeOK kk_X7_isHouse) (fun g => mFldL fk_RX7 rfl) (fun g idx v h => by cases h) (fun g idx v h => by cases h) (mCalL (l := l_X7_isHouse) (fun _ h => absurd h List.not_mem_nil) (fun _ => rfl)) run_X7_isHouse

abbrev t_X7_nextSeed : mG → mT := mP1 fNext
theorem mo_X7_nextSeed : mMn t_X7_nextSeed := mP1_mono
def k_X7_nextSeed : List (Nat × mI) := [(0, .iload_n 0, 1, 0, 0, []),
  (1, .ldc_w 388, 3, 0, 0, []),
  (4, .imul, 1, 0, 0, []),
  (5, .sipush 12345, 3, 0, nI 12345, []),
  (8, .iadd, 1, 0, 0, []),
  (9, .ireturn, 1, 0, 0, [])]
theorem kk_X7_nextSeed : (k_X7_nextSeed.all fun e => mChk cX7_nextSeed e.1 e.2) = true := by decide +kernel
def l_X7_nextSeed : List (Nat × Nat × (mG → mT)) := []
def f_X7_nextSeed (g : mG) : mF := (mLk k_X7_nextSeed, mLk fl_RX7, mLk (l_X7_nextSeed.map fun e => (e.1, e.2.1, e.2.2 g)), mLk cs_RX7, mLk ([] : List (Nat × mV)), some .int)
theorem m_X7_nextSeed (g : mG) : mMono (f_X7_nextSeed g) := mMonoL (g := g) (l := l_X7_nextSeed) (fun _ h => absurd h List.not_mem_nil) rfl

theorem v_X7_nextSeed (g : mG) (M : mM) (P : mP) (x : Int32)
    (h : P (some (.inl ((x * (nI 1103515245)) + (nI 12345)))) M) :
    mRun (mSx g) (f_X7_nextSeed g) P (0, [some (.inl x)], [], M) := mRun.vc (m_X7_nextSeed g) [] 6 h

set_option maxHeartbeats 4000000 in
theorem run_X7_nextSeed : mRunOf 1 t_X7_nextSeed f_X7_nextSeed := runP1 (by decide) (fun g M P x h => v_X7_nextSeed g M P x (by
    (repeat' (first | (refine ⟨?_, ?_⟩) | (intro _)))
    all_goals first | decide | (refine mP_eq h ?_; unfold fNext; (try unfold mb); (repeat' split) <;> first | rfl | (simp_all; done) | (exfalso; simp (disch := decide) only [fa_lt, fa_le, fa_eq, nI_toInt, Int32.toInt_zero] at * <;> omega)) | (exfalso; simp (disch := decide) only [fa_lt, fa_le, fa_eq, nI_toInt, Int32.toInt_zero] at * <;> omega) | skip))
theorem ok_X7_nextSeed : mOK yX7_nextSeed cX7_nextSeed 1 (some .int) 1 t_X7_nextSeed := mOK.of f_X7_nextSeed (by decide) (fun _ => rfl) (fun g => mCodeOK kk_X7_nextSeed) (fun g => mFldL fk_RX7 rfl) (mCstL ck_RX7 (fun _ => rfl)) (fun g idx v h => by cases h) (mCalL (l := l_X7_nextSeed) (fun _ h => absurd h List.not_mem_nil) (fun _ => rfl)) run_X7_nextSeed

abbrev t_X7_bitOf : mG → mT := mP1 fBit
theorem mo_X7_bitOf : mMn t_X7_bitOf := mP1_mono
def k_X7_bitOf : List (Nat × mI) := [(0, .iload_n 0, 1, 0, 0, []),
  (1, .ifCond .lt 15, 3, 16, 0, []),
  (4, .iload_n 0, 1, 0, 0, []),
  (5, .bipush 32, 2, 0, nI 32, []),
  (7, .if_icmp .ge 9, 3, 16, 0, []),
  (10, .iconst 1, 1, 0, nI 1, []),
  (11, .iload_n 0, 1, 0, 0, []),
  (12, .ishl, 1, 0, 0, []),
  (13, .goto 4, 3, 17, 0, []),
  (16, .iconst 0, 1, 0, nI 0, []),
  (17, .ireturn, 1, 0, 0, [])]
theorem kk_X7_bitOf : (k_X7_bitOf.all fun e => mChk cX7_bitOf e.1 e.2) = true := by decide +kernel
def l_X7_bitOf : List (Nat × Nat × (mG → mT)) := []
def f_X7_bitOf (g : mG) : mF := (mLk k_X7_bitOf, mLk fl_RX7, mLk (l_X7_bitOf.map fun e => (e.1, e.2.1, e.2.2 g)), mLk ([] : List (Nat × mV)), mLk ([] : List (Nat × mV)), some .int)
theorem m_X7_bitOf (g : mG) : mMono (f_X7_bitOf g) := mMonoL (g := g) (l := l_X7_bitOf) (fun _ h => absurd h List.not_mem_nil) rfl

theorem v_X7_bitOf (g : mG) (M : mM) (P : mP) (x : Int32)
    (h : (x < 0 → P (some (.inl (nI 0))) M) ∧ (¬ x < 0 → ((nI 32) ≤ x → P (some (.inl (nI 0))) M) ∧ (¬ (nI 32) ≤ x → P (some (.inl ((nI 1) <<< (x &&& 31)))) M))) :
    mRun (mSx g) (f_X7_bitOf g) P (0, [some (.inl x)], [], M) := mRun.vc (m_X7_bitOf g) [] 10 h

set_option maxHeartbeats 4000000 in
theorem run_X7_bitOf : mRunOf 1 t_X7_bitOf f_X7_bitOf := runP1 (by decide) (fun g M P x h => v_X7_bitOf g M P x (by
    (repeat' (first | (refine ⟨?_, ?_⟩) | (intro _)))
    all_goals first | decide | (refine mP_eq h ?_; unfold fBit; (try unfold mb); (repeat' split) <;> first | rfl | (simp_all; done) | (exfalso; simp (disch := decide) only [fa_lt, fa_le, fa_eq, nI_toInt, Int32.toInt_zero] at * <;> omega)) | (exfalso; simp (disch := decide) only [fa_lt, fa_le, fa_eq, nI_toInt, Int32.toInt_zero] at * <;> omega) | skip))
theorem ok_X7_bitOf : mOK yX7_bitOf cX7_bitOf 1 (some .int) 1 t_X7_bitOf := mOK.of f_X7_bitOf (by decide) (fun _ => rfl) (fun g => mCodeOK kk_X7_bitOf) (fun g => mFldL fk_RX7 rfl) (fun g idx v h => by cases h) (fun g idx v h => by cases h) (mCalL (l := l_X7_bitOf) (fun _ h => absurd h List.not_mem_nil) (fun _ => rfl)) run_X7_bitOf

abbrev t_X7_bitsOfSuit : mG → mT := mP1 fSuit
theorem mo_X7_bitsOfSuit : mMn t_X7_bitsOfSuit := mP1_mono
def k_X7_bitsOfSuit : List (Nat × mI) := [(0, .iload_n 0, 1, 0, 0, []),
  (1, .ifCond .lt 19, 3, 20, 0, []),
  (4, .iload_n 0, 1, 0, 0, []),
  (5, .iconst 4, 1, 0, nI 4, []),
  (6, .if_icmp .ge 14, 3, 20, 0, []),
  (9, .sipush 255, 3, 0, nI 255, []),
  (12, .bipush 8, 2, 0, nI 8, []),
  (14, .iload_n 0, 1, 0, 0, []),
  (15, .imul, 1, 0, 0, []),
  (16, .ishl, 1, 0, 0, []),
  (17, .goto 4, 3, 21, 0, []),
  (20, .iconst 0, 1, 0, nI 0, []),
  (21, .ireturn, 1, 0, 0, [])]
theorem kk_X7_bitsOfSuit : (k_X7_bitsOfSuit.all fun e => mChk cX7_bitsOfSuit e.1 e.2) = true := by decide +kernel
def l_X7_bitsOfSuit : List (Nat × Nat × (mG → mT)) := []
def f_X7_bitsOfSuit (g : mG) : mF := (mLk k_X7_bitsOfSuit, mLk fl_RX7, mLk (l_X7_bitsOfSuit.map fun e => (e.1, e.2.1, e.2.2 g)), mLk ([] : List (Nat × mV)), mLk ([] : List (Nat × mV)), some .int)
theorem m_X7_bitsOfSuit (g : mG) : mMono (f_X7_bitsOfSuit g) := mMonoL (g := g) (l := l_X7_bitsOfSuit) (fun _ h => absurd h List.not_mem_nil) rfl

theorem v_X7_bitsOfSuit (g : mG) (M : mM) (P : mP) (x : Int32)
    (h : (x < 0 → P (some (.inl (nI 0))) M) ∧ (¬ x < 0 → ((nI 4) ≤ x → P (some (.inl (nI 0))) M) ∧ (¬ (nI 4) ≤ x → P (some (.inl ((nI 255) <<< (((nI 8) * x) &&& 31)))) M))) :
    mRun (mSx g) (f_X7_bitsOfSuit g) P (0, [some (.inl x)], [], M) := mRun.vc (m_X7_bitsOfSuit g) [] 12 h

set_option maxHeartbeats 4000000 in
theorem run_X7_bitsOfSuit : mRunOf 1 t_X7_bitsOfSuit f_X7_bitsOfSuit := runP1 (by decide) (fun g M P x h => v_X7_bitsOfSuit g M P x (by
    (repeat' (first | (refine ⟨?_, ?_⟩) | (intro _)))
    all_goals first | decide | (refine mP_eq h ?_; unfold fSuit; (try unfold mb); (repeat' split) <;> first | rfl | (simp_all; done) | (exfalso; simp (disch := decide) only [fa_lt, fa_le, fa_eq, nI_toInt, Int32.toInt_zero] at * <;> omega)) | (exfalso; simp (disch := decide) only [fa_lt, fa_le, fa_eq, nI_toInt, Int32.toInt_zero] at * <;> omega) | skip))
theorem ok_X7_bitsOfSuit : mOK yX7_bitsOfSuit cX7_bitsOfSuit 1 (some .int) 1 t_X7_bitsOfSuit := mOK.of f_X7_bitsOfSuit (by decide) (fun _ => rfl) (fun g => mCodeOK kk_X7_bitsOfSuit) (fun g => mFldL fk_RX7 rfl) (fun g idx v h => by cases h) (fun g idx v h => by cases h) (mCalL (l := l_X7_bitsOfSuit) (fun _ h => absurd h List.not_mem_nil) (fun _ => rfl)) run_X7_bitsOfSuit

abbrev t_X7_strengthOf : mG → mT := mP3 fStr
theorem mo_X7_strengthOf : mMn t_X7_strengthOf := mP3_mono
def k_X7_strengthOf : List (Nat × mI) := [(0, .iload_n 0, 1, 0, 0, []),
  (1, .bipush 8, 2, 0, nI 8, []),
  (3, .irem, 1, 0, 0, []),
  (4, .istore_n 3, 1, 3, 0, []),
  (5, .iload_n 2, 1, 2, 0, []),
  (6, .iconst 1, 1, 0, nI 1, []),
  (7, .if_icmp .ne 8, 3, 15, 0, []),
  (10, .bipush 7, 2, 0, nI 7, []),
  (12, .iload_n 3, 1, 3, 0, []),
  (13, .isub, 1, 0, 0, []),
  (14, .ireturn, 1, 0, 0, []),
  (15, .iload_n 2, 1, 2, 0, []),
  (16, .iconst 2, 1, 0, nI 2, []),
  (17, .if_icmp .ne 28, 3, 45, 0, []),
  (20, .iload_n 3, 1, 3, 0, []),
  (21, .iconst 3, 1, 0, nI 3, []),
  (22, .if_icmp .lt 23, 3, 45, 0, []),
  (25, .iload_n 3, 1, 3, 0, []),
  (26, .bipush 7, 2, 0, nI 7, []),
  (28, .if_icmp .ge 17, 3, 45, 0, []),
  (31, .iload_n 3, 1, 3, 0, []),
  (32, .iconst 3, 1, 0, nI 3, []),
  (33, .if_icmp .ne 8, 3, 41, 0, []),
  (36, .bipush 6, 2, 0, nI 6, []),
  (38, .goto 6, 3, 44, 0, []),
  (41, .iload_n 3, 1, 3, 0, []),
  (42, .iconst 1, 1, 0, nI 1, []),
  (43, .isub, 1, 0, 0, []),
  (44, .ireturn, 1, 0, 0, []),
  (45, .iload_n 2, 1, 2, 0, []),
  (46, .iconst 3, 1, 0, nI 3, []),
  (47, .if_icmp .ne 53, 3, 100, 0, []),
  (50, .iload_n 0, 1, 0, 0, []),
  (51, .bipush 8, 2, 0, nI 8, []),
  (53, .idiv, 1, 0, 0, []),
  (54, .iload_n 1, 1, 1, 0, []),
  (55, .if_icmp .ne 45, 3, 100, 0, []),
  (58, .iload_n 3, 1, 3, 0, []),
  (59, .iconst 4, 1, 0, nI 4, []),
  (60, .if_icmp .ne 6, 3, 66, 0, []),
  (63, .bipush 7, 2, 0, nI 7, []),
  (65, .ireturn, 1, 0, 0, []),
  (66, .iload_n 3, 1, 3, 0, []),
  (67, .iconst 2, 1, 0, nI 2, []),
  (68, .if_icmp .ne 8, 3, 76, 0, []),
  (71, .bipush 6, 2, 0, nI 6, []),
  (73, .goto 26, 3, 99, 0, []),
  (76, .iload_n 3, 1, 3, 0, []),
  (77, .iload_n 3, 1, 3, 0, []),
  (78, .iconst 2, 1, 0, nI 2, []),
  (79, .if_icmp .le 7, 3, 86, 0, []),
  (82, .iconst 1, 1, 0, nI 1, []),
  (83, .goto 4, 3, 87, 0, []),
  (86, .iconst 0, 1, 0, nI 0, []),
  (87, .isub, 1, 0, 0, []),
  (88, .iload_n 3, 1, 3, 0, []),
  (89, .iconst 4, 1, 0, nI 4, []),
  (90, .if_icmp .le 7, 3, 97, 0, []),
  (93, .iconst 1, 1, 0, nI 1, []),
  (94, .goto 4, 3, 98, 0, []),
  (97, .iconst 0, 1, 0, nI 0, []),
  (98, .isub, 1, 0, 0, []),
  (99, .ireturn, 1, 0, 0, []),
  (100, .iload_n 3, 1, 3, 0, []),
  (101, .ireturn, 1, 0, 0, [])]
theorem kk_X7_strengthOf : (k_X7_strengthOf.all fun e => mChk cX7_strengthOf e.1 e.2) = true := by decide +kernel
def l_X7_strengthOf : List (Nat × Nat × (mG → mT)) := []
def f_X7_strengthOf (g : mG) : mF := (mLk k_X7_strengthOf, mLk fl_RX7, mLk (l_X7_strengthOf.map fun e => (e.1, e.2.1, e.2.2 g)), mLk ([] : List (Nat × mV)), mLk ([] : List (Nat × mV)), some .int)
theorem m_X7_strengthOf (g : mG) : mMono (f_X7_strengthOf g) := mMonoL (g := g) (l := l_X7_strengthOf) (fun _ h => absurd h List.not_mem_nil) rfl

theorem v_X7_strengthOf (g : mG) (M : mM) (P : mP) (x y z : Int32)
    (h : ¬ (nI 8) = 0 ∧ ((¬ z = (nI 1) → (¬ z = (nI 2) → (¬ z = (nI 3) → P (some (.inl (x - x / (nI 8) * (nI 8)))) M) ∧ (¬ (¬ z = (nI 3)) → ¬ (nI 8) = 0 ∧ ((¬ (x / (nI 8)) = y → P (some (.inl (x - x / (nI 8) * (nI 8)))) M) ∧ (¬ (¬ (x / (nI 8)) = y) → (¬ (x - x / (nI 8) * (nI 8)) = (nI 4) → (¬ (x - x / (nI 8) * (nI 8)) = (nI 2) → ((x - x / (nI 8) * (nI 8)) ≤ (nI 2) → ((x - x / (nI 8) * (nI 8)) ≤ (nI 4) → P (some (.inl (((x - x / (nI 8) * (nI 8)) - (nI 0)) - (nI 0)))) M) ∧ (¬ (x - x / (nI 8) * (nI 8)) ≤ (nI 4) → P (some (.inl (((x - x / (nI 8) * (nI 8)) - (nI 0)) - (nI 1)))) M)) ∧ (¬ (x - x / (nI 8) * (nI 8)) ≤ (nI 2) → ((x - x / (nI 8) * (nI 8)) ≤ (nI 4) → P (some (.inl (((x - x / (nI 8) * (nI 8)) - (nI 1)) - (nI 0)))) M) ∧ (¬ (x - x / (nI 8) * (nI 8)) ≤ (nI 4) → P (some (.inl (((x - x / (nI 8) * (nI 8)) - (nI 1)) - (nI 1)))) M))) ∧ (¬ (¬ (x - x / (nI 8) * (nI 8)) = (nI 2)) → P (some (.inl (nI 6))) M)) ∧ (¬ (¬ (x - x / (nI 8) * (nI 8)) = (nI 4)) → P (some (.inl (nI 7))) M))))) ∧ (¬ (¬ z = (nI 2)) → ((x - x / (nI 8) * (nI 8)) < (nI 3) → (¬ z = (nI 3) → P (some (.inl (x - x / (nI 8) * (nI 8)))) M) ∧ (¬ (¬ z = (nI 3)) → ¬ (nI 8) = 0 ∧ ((¬ (x / (nI 8)) = y → P (some (.inl (x - x / (nI 8) * (nI 8)))) M) ∧ (¬ (¬ (x / (nI 8)) = y) → (¬ (x - x / (nI 8) * (nI 8)) = (nI 4) → (¬ (x - x / (nI 8) * (nI 8)) = (nI 2) → ((x - x / (nI 8) * (nI 8)) ≤ (nI 2) → ((x - x / (nI 8) * (nI 8)) ≤ (nI 4) → P (some (.inl (((x - x / (nI 8) * (nI 8)) - (nI 0)) - (nI 0)))) M) ∧ (¬ (x - x / (nI 8) * (nI 8)) ≤ (nI 4) → P (some (.inl (((x - x / (nI 8) * (nI 8)) - (nI 0)) - (nI 1)))) M)) ∧ (¬ (x - x / (nI 8) * (nI 8)) ≤ (nI 2) → ((x - x / (nI 8) * (nI 8)) ≤ (nI 4) → P (some (.inl (((x - x / (nI 8) * (nI 8)) - (nI 1)) - (nI 0)))) M) ∧ (¬ (x - x / (nI 8) * (nI 8)) ≤ (nI 4) → P (some (.inl (((x - x / (nI 8) * (nI 8)) - (nI 1)) - (nI 1)))) M))) ∧ (¬ (¬ (x - x / (nI 8) * (nI 8)) = (nI 2)) → P (some (.inl (nI 6))) M)) ∧ (¬ (¬ (x - x / (nI 8) * (nI 8)) = (nI 4)) → P (some (.inl (nI 7))) M))))) ∧ (¬ (x - x / (nI 8) * (nI 8)) < (nI 3) → ((nI 7) ≤ (x - x / (nI 8) * (nI 8)) → (¬ z = (nI 3) → P (some (.inl (x - x / (nI 8) * (nI 8)))) M) ∧ (¬ (¬ z = (nI 3)) → ¬ (nI 8) = 0 ∧ ((¬ (x / (nI 8)) = y → P (some (.inl (x - x / (nI 8) * (nI 8)))) M) ∧ (¬ (¬ (x / (nI 8)) = y) → (¬ (x - x / (nI 8) * (nI 8)) = (nI 4) → (¬ (x - x / (nI 8) * (nI 8)) = (nI 2) → ((x - x / (nI 8) * (nI 8)) ≤ (nI 2) → ((x - x / (nI 8) * (nI 8)) ≤ (nI 4) → P (some (.inl (((x - x / (nI 8) * (nI 8)) - (nI 0)) - (nI 0)))) M) ∧ (¬ (x - x / (nI 8) * (nI 8)) ≤ (nI 4) → P (some (.inl (((x - x / (nI 8) * (nI 8)) - (nI 0)) - (nI 1)))) M)) ∧ (¬ (x - x / (nI 8) * (nI 8)) ≤ (nI 2) → ((x - x / (nI 8) * (nI 8)) ≤ (nI 4) → P (some (.inl (((x - x / (nI 8) * (nI 8)) - (nI 1)) - (nI 0)))) M) ∧ (¬ (x - x / (nI 8) * (nI 8)) ≤ (nI 4) → P (some (.inl (((x - x / (nI 8) * (nI 8)) - (nI 1)) - (nI 1)))) M))) ∧ (¬ (¬ (x - x / (nI 8) * (nI 8)) = (nI 2)) → P (some (.inl (nI 6))) M)) ∧ (¬ (¬ (x - x / (nI 8) * (nI 8)) = (nI 4)) → P (some (.inl (nI 7))) M))))) ∧ (¬ (nI 7) ≤ (x - x / (nI 8) * (nI 8)) → (¬ (x - x / (nI 8) * (nI 8)) = (nI 3) → P (some (.inl ((x - x / (nI 8) * (nI 8)) - (nI 1)))) M) ∧ (¬ (¬ (x - x / (nI 8) * (nI 8)) = (nI 3)) → P (some (.inl (nI 6))) M))))) ∧ (¬ (¬ z = (nI 1)) → P (some (.inl ((nI 7) - (x - x / (nI 8) * (nI 8))))) M))) :
    mRun (mSx g) (f_X7_strengthOf g) P (0, [some (.inl x), some (.inl y), some (.inl z), none], [], M) := mRun.vc (m_X7_strengthOf g) [] 44 h

set_option maxHeartbeats 4000000 in
theorem run_X7_strengthOf : mRunOf 4 t_X7_strengthOf f_X7_strengthOf := runP3 (by decide) (fun g M P x y z h => v_X7_strengthOf g M P x y z (by
    (repeat' (first | (refine ⟨?_, ?_⟩) | (intro _)))
    all_goals first | decide | (refine mP_eq h ?_; unfold fStr; (try unfold mb); (repeat' split) <;> first | rfl | (simp_all; done) | (exfalso; simp (disch := decide) only [fa_lt, fa_le, fa_eq, nI_toInt, Int32.toInt_zero] at * <;> omega)) | (exfalso; simp (disch := decide) only [fa_lt, fa_le, fa_eq, nI_toInt, Int32.toInt_zero] at * <;> omega) | skip))
theorem ok_X7_strengthOf : mOK yX7_strengthOf cX7_strengthOf 4 (some .int) 1 t_X7_strengthOf := mOK.of f_X7_strengthOf (by decide) (fun _ => rfl) (fun g => mCodeOK kk_X7_strengthOf) (fun g => mFldL fk_RX7 rfl) (fun g idx v h => by cases h) (fun g idx v h => by cases h) (mCalL (l := l_X7_strengthOf) (fun _ h => absurd h List.not_mem_nil) (fun _ => rfl)) run_X7_strengthOf

abbrev t_X8_in : mG → mT := mP3 fIn
theorem mo_X8_in : mMn t_X8_in := mP3_mono
def k_X8_in : List (Nat × mI) := [(0, .iload_n 0, 1, 0, 0, []),
  (1, .iload_n 1, 1, 1, 0, []),
  (2, .if_icmp .lt 12, 3, 14, 0, []),
  (5, .iload_n 0, 1, 0, 0, []),
  (6, .iload_n 2, 1, 2, 0, []),
  (7, .if_icmp .gt 7, 3, 14, 0, []),
  (10, .iconst 1, 1, 0, nI 1, []),
  (11, .goto 4, 3, 15, 0, []),
  (14, .iconst 0, 1, 0, nI 0, []),
  (15, .ireturn, 1, 0, 0, [])]
theorem kk_X8_in : (k_X8_in.all fun e => mChk cX8_in e.1 e.2) = true := by decide +kernel
def l_X8_in : List (Nat × Nat × (mG → mT)) := []
def f_X8_in (g : mG) : mF := (mLk k_X8_in, mLk fl_RX8, mLk (l_X8_in.map fun e => (e.1, e.2.1, e.2.2 g)), mLk ([] : List (Nat × mV)), mLk ([] : List (Nat × mV)), some .boolean)
theorem m_X8_in (g : mG) : mMono (f_X8_in g) := mMonoL (g := g) (l := l_X8_in) (fun _ h => absurd h List.not_mem_nil) rfl

theorem v_X8_in (g : mG) (M : mM) (P : mP) (x y z : Int32)
    (h : (x < y → ((nI 0) = 0 ∨ (nI 0) = 1) ∧ P (some (.inl (nI 0))) M) ∧ (¬ x < y → (z < x → ((nI 0) = 0 ∨ (nI 0) = 1) ∧ P (some (.inl (nI 0))) M) ∧ (¬ z < x → ((nI 1) = 0 ∨ (nI 1) = 1) ∧ P (some (.inl (nI 1))) M))) :
    mRun (mSx g) (f_X8_in g) P (0, [some (.inl x), some (.inl y), some (.inl z)], [], M) := mRun.vc (m_X8_in g) [] 9 h

set_option maxHeartbeats 4000000 in
theorem run_X8_in : mRunOf 3 t_X8_in f_X8_in := runP3 (by decide) (fun g M P x y z h => v_X8_in g M P x y z (by
    (repeat' (first | (refine ⟨?_, ?_⟩) | (intro _)))
    all_goals first | decide | (refine mP_eq h ?_; unfold fIn; (try unfold mb); (repeat' split) <;> first | rfl | (simp_all; done) | (exfalso; simp (disch := decide) only [fa_lt, fa_le, fa_eq, nI_toInt, Int32.toInt_zero] at * <;> omega)) | (exfalso; simp (disch := decide) only [fa_lt, fa_le, fa_eq, nI_toInt, Int32.toInt_zero] at * <;> omega) | skip))
theorem ok_X8_in : mOK yX8_in cX8_in 3 (some .boolean) 1 t_X8_in := mOK.of f_X8_in (by decide) (fun _ => rfl) (fun g => mCodeOK kk_X8_in) (fun g => mFldL fk_RX8 rfl) (fun g idx v h => by cases h) (fun g idx v h => by cases h) (mCalL (l := l_X8_in) (fun _ h => absurd h List.not_mem_nil) (fun _ => rfl)) run_X8_in

abbrev t_X8_side : mG → mT := mP1 fSide
theorem mo_X8_side : mMn t_X8_side := mP1_mono
def k_X8_side : List (Nat × mI) := [(0, .iload_n 0, 1, 0, 0, []),
  (1, .iconst 2, 1, 0, nI 2, []),
  (2, .irem, 1, 0, 0, []),
  (3, .ireturn, 1, 0, 0, [])]
theorem kk_X8_side : (k_X8_side.all fun e => mChk cX8_side e.1 e.2) = true := by decide +kernel
def l_X8_side : List (Nat × Nat × (mG → mT)) := []
def f_X8_side (g : mG) : mF := (mLk k_X8_side, mLk fl_RX8, mLk (l_X8_side.map fun e => (e.1, e.2.1, e.2.2 g)), mLk ([] : List (Nat × mV)), mLk ([] : List (Nat × mV)), some .int)
theorem m_X8_side (g : mG) : mMono (f_X8_side g) := mMonoL (g := g) (l := l_X8_side) (fun _ h => absurd h List.not_mem_nil) rfl

theorem v_X8_side (g : mG) (M : mM) (P : mP) (x : Int32)
    (h : ¬ (nI 2) = 0 ∧ (P (some (.inl (x - x / (nI 2) * (nI 2)))) M)) :
    mRun (mSx g) (f_X8_side g) P (0, [some (.inl x)], [], M) := mRun.vc (m_X8_side g) [] 4 h

set_option maxHeartbeats 4000000 in
theorem run_X8_side : mRunOf 1 t_X8_side f_X8_side := runP1 (by decide) (fun g M P x h => v_X8_side g M P x (by
    (repeat' (first | (refine ⟨?_, ?_⟩) | (intro _)))
    all_goals first | decide | (refine mP_eq h ?_; unfold fSide; (try unfold mb); (repeat' split) <;> first | rfl | (simp_all; done) | (exfalso; simp (disch := decide) only [fa_lt, fa_le, fa_eq, nI_toInt, Int32.toInt_zero] at * <;> omega)) | (exfalso; simp (disch := decide) only [fa_lt, fa_le, fa_eq, nI_toInt, Int32.toInt_zero] at * <;> omega) | skip))
theorem ok_X8_side : mOK yX8_side cX8_side 1 (some .int) 1 t_X8_side := mOK.of f_X8_side (by decide) (fun _ => rfl) (fun g => mCodeOK kk_X8_side) (fun g => mFldL fk_RX8 rfl) (fun g idx v h => by cases h) (fun g idx v h => by cases h) (mCalL (l := l_X8_side) (fun _ h => absurd h List.not_mem_nil) (fun _ => rfl)) run_X8_side

abbrev t_X8_bit : mG → mT := mP1 fSh1
theorem mo_X8_bit : mMn t_X8_bit := mP1_mono
def k_X8_bit : List (Nat × mI) := [(0, .iconst 1, 1, 0, nI 1, []),
  (1, .iload_n 0, 1, 0, 0, []),
  (2, .ishl, 1, 0, 0, []),
  (3, .ireturn, 1, 0, 0, [])]
theorem kk_X8_bit : (k_X8_bit.all fun e => mChk cX8_bit e.1 e.2) = true := by decide +kernel
def l_X8_bit : List (Nat × Nat × (mG → mT)) := []
def f_X8_bit (g : mG) : mF := (mLk k_X8_bit, mLk fl_RX8, mLk (l_X8_bit.map fun e => (e.1, e.2.1, e.2.2 g)), mLk ([] : List (Nat × mV)), mLk ([] : List (Nat × mV)), some .int)
theorem m_X8_bit (g : mG) : mMono (f_X8_bit g) := mMonoL (g := g) (l := l_X8_bit) (fun _ h => absurd h List.not_mem_nil) rfl

theorem v_X8_bit (g : mG) (M : mM) (P : mP) (x : Int32)
    (h : P (some (.inl ((nI 1) <<< (x &&& 31)))) M) :
    mRun (mSx g) (f_X8_bit g) P (0, [some (.inl x)], [], M) := mRun.vc (m_X8_bit g) [] 4 h

set_option maxHeartbeats 4000000 in
theorem run_X8_bit : mRunOf 1 t_X8_bit f_X8_bit := runP1 (by decide) (fun g M P x h => v_X8_bit g M P x (by
    (repeat' (first | (refine ⟨?_, ?_⟩) | (intro _)))
    all_goals first | decide | (refine mP_eq h ?_; unfold fSh1; (try unfold mb); (repeat' split) <;> first | rfl | (simp_all; done) | (exfalso; simp (disch := decide) only [fa_lt, fa_le, fa_eq, nI_toInt, Int32.toInt_zero] at * <;> omega)) | (exfalso; simp (disch := decide) only [fa_lt, fa_le, fa_eq, nI_toInt, Int32.toInt_zero] at * <;> omega) | skip))
theorem ok_X8_bit : mOK yX8_bit cX8_bit 1 (some .int) 1 t_X8_bit := mOK.of f_X8_bit (by decide) (fun _ => rfl) (fun g => mCodeOK kk_X8_bit) (fun g => mFldL fk_RX8 rfl) (fun g idx v h => by cases h) (fun g idx v h => by cases h) (mCalL (l := l_X8_bit) (fun _ h => absurd h List.not_mem_nil) (fun _ => rfl)) run_X8_bit

abbrev t_X8_has : mG → mT := mP2 fHas
theorem mo_X8_has : mMn t_X8_has := mP2_mono
def k_X8_has : List (Nat × mI) := [(0, .iload_n 0, 1, 0, 0, []),
  (1, .iload_n 1, 1, 1, 0, []),
  (2, .iushr, 1, 0, 0, []),
  (3, .iconst 1, 1, 0, nI 1, []),
  (4, .iand, 1, 0, 0, []),
  (5, .iconst 1, 1, 0, nI 1, []),
  (6, .if_icmp .ne 7, 3, 13, 0, []),
  (9, .iconst 1, 1, 0, nI 1, []),
  (10, .goto 4, 3, 14, 0, []),
  (13, .iconst 0, 1, 0, nI 0, []),
  (14, .ireturn, 1, 0, 0, [])]
theorem kk_X8_has : (k_X8_has.all fun e => mChk cX8_has e.1 e.2) = true := by decide +kernel
def l_X8_has : List (Nat × Nat × (mG → mT)) := []
def f_X8_has (g : mG) : mF := (mLk k_X8_has, mLk fl_RX8, mLk (l_X8_has.map fun e => (e.1, e.2.1, e.2.2 g)), mLk ([] : List (Nat × mV)), mLk ([] : List (Nat × mV)), some .boolean)
theorem m_X8_has (g : mG) : mMono (f_X8_has g) := mMonoL (g := g) (l := l_X8_has) (fun _ h => absurd h List.not_mem_nil) rfl

theorem v_X8_has (g : mG) (M : mM) (P : mP) (x y : Int32)
    (h : (¬ (((x.toUInt32 >>> (y.toUInt32 &&& Int32.toUInt32 31)).toInt32) &&& (nI 1)) = (nI 1) → ((nI 0) = 0 ∨ (nI 0) = 1) ∧ P (some (.inl (nI 0))) M) ∧ (¬ (¬ (((x.toUInt32 >>> (y.toUInt32 &&& Int32.toUInt32 31)).toInt32) &&& (nI 1)) = (nI 1)) → ((nI 1) = 0 ∨ (nI 1) = 1) ∧ P (some (.inl (nI 1))) M)) :
    mRun (mSx g) (f_X8_has g) P (0, [some (.inl x), some (.inl y)], [], M) := mRun.vc (m_X8_has g) [] 10 h

set_option maxHeartbeats 4000000 in
theorem run_X8_has : mRunOf 2 t_X8_has f_X8_has := runP2 (by decide) (fun g M P x y h => v_X8_has g M P x y (by
    (repeat' (first | (refine ⟨?_, ?_⟩) | (intro _)))
    all_goals first | decide | (refine mP_eq h ?_; unfold fHas; (try unfold mb); (repeat' split) <;> first | rfl | (simp_all; done) | (exfalso; simp (disch := decide) only [fa_lt, fa_le, fa_eq, nI_toInt, Int32.toInt_zero] at * <;> omega)) | (exfalso; simp (disch := decide) only [fa_lt, fa_le, fa_eq, nI_toInt, Int32.toInt_zero] at * <;> omega) | skip))
theorem ok_X8_has : mOK yX8_has cX8_has 2 (some .boolean) 1 t_X8_has := mOK.of f_X8_has (by decide) (fun _ => rfl) (fun g => mCodeOK kk_X8_has) (fun g => mFldL fk_RX8 rfl) (fun g idx v h => by cases h) (fun g idx v h => by cases h) (mCalL (l := l_X8_has) (fun _ h => absurd h List.not_mem_nil) (fun _ => rfl)) run_X8_has

abbrev t_X8_strengthBy : mG → mT := mP3 fStrB
theorem mo_X8_strengthBy : mMn t_X8_strengthBy := mP3_mono
def k_X8_strengthBy : List (Nat × mI) := [(0, .iload_n 0, 1, 0, 0, []),
  (1, .bipush 8, 2, 0, nI 8, []),
  (3, .irem, 1, 0, 0, []),
  (4, .istore_n 3, 1, 3, 0, []),
  (5, .iload_n 0, 1, 0, 0, []),
  (6, .bipush 8, 2, 0, nI 8, []),
  (8, .idiv, 1, 0, 0, []),
  (9, .iload_n 1, 1, 1, 0, []),
  (10, .if_icmp .ne 7, 3, 17, 0, []),
  (13, .iconst 1, 1, 0, nI 1, []),
  (14, .goto 4, 3, 18, 0, []),
  (17, .iconst 0, 1, 0, nI 0, []),
  (18, .istore 4, 2, 4, 0, []),
  (20, .iload_n 2, 1, 2, 0, []),
  (21, .iconst 1, 1, 0, nI 1, []),
  (22, .if_icmp .ne 10, 3, 32, 0, []),
  (25, .iconst 2, 1, 0, nI 2, []),
  (26, .bipush 7, 2, 0, nI 7, []),
  (28, .iload_n 3, 1, 3, 0, []),
  (29, .isub, 1, 0, 0, []),
  (30, .imul, 1, 0, 0, []),
  (31, .ireturn, 1, 0, 0, []),
  (32, .iload_n 2, 1, 2, 0, []),
  (33, .iconst 2, 1, 0, nI 2, []),
  (34, .if_icmp .ne 11, 3, 45, 0, []),
  (37, .iload_n 3, 1, 3, 0, []),
  (38, .iconst 3, 1, 0, nI 3, []),
  (39, .if_icmp .ne 6, 3, 45, 0, []),
  (42, .bipush 13, 2, 0, nI 13, []),
  (44, .ireturn, 1, 0, 0, []),
  (45, .iload_n 2, 1, 2, 0, []),
  (46, .iconst 3, 1, 0, nI 3, []),
  (47, .if_icmp .ne 16, 3, 63, 0, []),
  (50, .iload 4, 2, 4, 0, []),
  (52, .ifCond .eq 11, 3, 63, 0, []),
  (55, .iload_n 3, 1, 3, 0, []),
  (56, .iconst 4, 1, 0, nI 4, []),
  (57, .if_icmp .ne 6, 3, 63, 0, []),
  (60, .bipush 20, 2, 0, nI 20, []),
  (62, .ireturn, 1, 0, 0, []),
  (63, .iload_n 2, 1, 2, 0, []),
  (64, .iconst 3, 1, 0, nI 3, []),
  (65, .if_icmp .ne 18, 3, 83, 0, []),
  (68, .iload 4, 2, 4, 0, []),
  (70, .ifCond .eq 13, 3, 83, 0, []),
  (73, .iload_n 3, 1, 3, 0, []),
  (74, .iconst 2, 1, 0, nI 2, []),
  (75, .if_icmp .ne 8, 3, 83, 0, []),
  (78, .bipush 18, 2, 0, nI 18, []),
  (80, .goto 6, 3, 86, 0, []),
  (83, .iconst 2, 1, 0, nI 2, []),
  (84, .iload_n 3, 1, 3, 0, []),
  (85, .imul, 1, 0, 0, []),
  (86, .ireturn, 1, 0, 0, [])]
theorem kk_X8_strengthBy : (k_X8_strengthBy.all fun e => mChk cX8_strengthBy e.1 e.2) = true := by decide +kernel
def l_X8_strengthBy : List (Nat × Nat × (mG → mT)) := []
def f_X8_strengthBy (g : mG) : mF := (mLk k_X8_strengthBy, mLk fl_RX8, mLk (l_X8_strengthBy.map fun e => (e.1, e.2.1, e.2.2 g)), mLk ([] : List (Nat × mV)), mLk ([] : List (Nat × mV)), some .int)
theorem m_X8_strengthBy (g : mG) : mMono (f_X8_strengthBy g) := mMonoL (g := g) (l := l_X8_strengthBy) (fun _ h => absurd h List.not_mem_nil) rfl

theorem v_X8_strengthBy (g : mG) (M : mM) (P : mP) (x y z : Int32)
    (h : ¬ (nI 8) = 0 ∧ (¬ (nI 8) = 0 ∧ ((¬ (x / (nI 8)) = y → (¬ z = (nI 1) → (¬ z = (nI 2) → (¬ z = (nI 3) → (¬ z = (nI 3) → P (some (.inl ((nI 2) * (x - x / (nI 8) * (nI 8))))) M) ∧ (¬ (¬ z = (nI 3)) → ((nI 0) = 0 → P (some (.inl ((nI 2) * (x - x / (nI 8) * (nI 8))))) M) ∧ (¬ (nI 0) = 0 → (¬ (x - x / (nI 8) * (nI 8)) = (nI 2) → P (some (.inl ((nI 2) * (x - x / (nI 8) * (nI 8))))) M) ∧ (¬ (¬ (x - x / (nI 8) * (nI 8)) = (nI 2)) → P (some (.inl (nI 18))) M)))) ∧ (¬ (¬ z = (nI 3)) → ((nI 0) = 0 → (¬ z = (nI 3) → P (some (.inl ((nI 2) * (x - x / (nI 8) * (nI 8))))) M) ∧ (¬ (¬ z = (nI 3)) → ((nI 0) = 0 → P (some (.inl ((nI 2) * (x - x / (nI 8) * (nI 8))))) M) ∧ (¬ (nI 0) = 0 → (¬ (x - x / (nI 8) * (nI 8)) = (nI 2) → P (some (.inl ((nI 2) * (x - x / (nI 8) * (nI 8))))) M) ∧ (¬ (¬ (x - x / (nI 8) * (nI 8)) = (nI 2)) → P (some (.inl (nI 18))) M)))) ∧ (¬ (nI 0) = 0 → (¬ (x - x / (nI 8) * (nI 8)) = (nI 4) → (¬ z = (nI 3) → P (some (.inl ((nI 2) * (x - x / (nI 8) * (nI 8))))) M) ∧ (¬ (¬ z = (nI 3)) → ((nI 0) = 0 → P (some (.inl ((nI 2) * (x - x / (nI 8) * (nI 8))))) M) ∧ (¬ (nI 0) = 0 → (¬ (x - x / (nI 8) * (nI 8)) = (nI 2) → P (some (.inl ((nI 2) * (x - x / (nI 8) * (nI 8))))) M) ∧ (¬ (¬ (x - x / (nI 8) * (nI 8)) = (nI 2)) → P (some (.inl (nI 18))) M)))) ∧ (¬ (¬ (x - x / (nI 8) * (nI 8)) = (nI 4)) → P (some (.inl (nI 20))) M)))) ∧ (¬ (¬ z = (nI 2)) → (¬ (x - x / (nI 8) * (nI 8)) = (nI 3) → (¬ z = (nI 3) → (¬ z = (nI 3) → P (some (.inl ((nI 2) * (x - x / (nI 8) * (nI 8))))) M) ∧ (¬ (¬ z = (nI 3)) → ((nI 0) = 0 → P (some (.inl ((nI 2) * (x - x / (nI 8) * (nI 8))))) M) ∧ (¬ (nI 0) = 0 → (¬ (x - x / (nI 8) * (nI 8)) = (nI 2) → P (some (.inl ((nI 2) * (x - x / (nI 8) * (nI 8))))) M) ∧ (¬ (¬ (x - x / (nI 8) * (nI 8)) = (nI 2)) → P (some (.inl (nI 18))) M)))) ∧ (¬ (¬ z = (nI 3)) → ((nI 0) = 0 → (¬ z = (nI 3) → P (some (.inl ((nI 2) * (x - x / (nI 8) * (nI 8))))) M) ∧ (¬ (¬ z = (nI 3)) → ((nI 0) = 0 → P (some (.inl ((nI 2) * (x - x / (nI 8) * (nI 8))))) M) ∧ (¬ (nI 0) = 0 → (¬ (x - x / (nI 8) * (nI 8)) = (nI 2) → P (some (.inl ((nI 2) * (x - x / (nI 8) * (nI 8))))) M) ∧ (¬ (¬ (x - x / (nI 8) * (nI 8)) = (nI 2)) → P (some (.inl (nI 18))) M)))) ∧ (¬ (nI 0) = 0 → (¬ (x - x / (nI 8) * (nI 8)) = (nI 4) → (¬ z = (nI 3) → P (some (.inl ((nI 2) * (x - x / (nI 8) * (nI 8))))) M) ∧ (¬ (¬ z = (nI 3)) → ((nI 0) = 0 → P (some (.inl ((nI 2) * (x - x / (nI 8) * (nI 8))))) M) ∧ (¬ (nI 0) = 0 → (¬ (x - x / (nI 8) * (nI 8)) = (nI 2) → P (some (.inl ((nI 2) * (x - x / (nI 8) * (nI 8))))) M) ∧ (¬ (¬ (x - x / (nI 8) * (nI 8)) = (nI 2)) → P (some (.inl (nI 18))) M)))) ∧ (¬ (¬ (x - x / (nI 8) * (nI 8)) = (nI 4)) → P (some (.inl (nI 20))) M)))) ∧ (¬ (¬ (x - x / (nI 8) * (nI 8)) = (nI 3)) → P (some (.inl (nI 13))) M))) ∧ (¬ (¬ z = (nI 1)) → P (some (.inl ((nI 2) * ((nI 7) - (x - x / (nI 8) * (nI 8)))))) M)) ∧ (¬ (¬ (x / (nI 8)) = y) → (¬ z = (nI 1) → (¬ z = (nI 2) → (¬ z = (nI 3) → (¬ z = (nI 3) → P (some (.inl ((nI 2) * (x - x / (nI 8) * (nI 8))))) M) ∧ (¬ (¬ z = (nI 3)) → ((nI 1) = 0 → P (some (.inl ((nI 2) * (x - x / (nI 8) * (nI 8))))) M) ∧ (¬ (nI 1) = 0 → (¬ (x - x / (nI 8) * (nI 8)) = (nI 2) → P (some (.inl ((nI 2) * (x - x / (nI 8) * (nI 8))))) M) ∧ (¬ (¬ (x - x / (nI 8) * (nI 8)) = (nI 2)) → P (some (.inl (nI 18))) M)))) ∧ (¬ (¬ z = (nI 3)) → ((nI 1) = 0 → (¬ z = (nI 3) → P (some (.inl ((nI 2) * (x - x / (nI 8) * (nI 8))))) M) ∧ (¬ (¬ z = (nI 3)) → ((nI 1) = 0 → P (some (.inl ((nI 2) * (x - x / (nI 8) * (nI 8))))) M) ∧ (¬ (nI 1) = 0 → (¬ (x - x / (nI 8) * (nI 8)) = (nI 2) → P (some (.inl ((nI 2) * (x - x / (nI 8) * (nI 8))))) M) ∧ (¬ (¬ (x - x / (nI 8) * (nI 8)) = (nI 2)) → P (some (.inl (nI 18))) M)))) ∧ (¬ (nI 1) = 0 → (¬ (x - x / (nI 8) * (nI 8)) = (nI 4) → (¬ z = (nI 3) → P (some (.inl ((nI 2) * (x - x / (nI 8) * (nI 8))))) M) ∧ (¬ (¬ z = (nI 3)) → ((nI 1) = 0 → P (some (.inl ((nI 2) * (x - x / (nI 8) * (nI 8))))) M) ∧ (¬ (nI 1) = 0 → (¬ (x - x / (nI 8) * (nI 8)) = (nI 2) → P (some (.inl ((nI 2) * (x - x / (nI 8) * (nI 8))))) M) ∧ (¬ (¬ (x - x / (nI 8) * (nI 8)) = (nI 2)) → P (some (.inl (nI 18))) M)))) ∧ (¬ (¬ (x - x / (nI 8) * (nI 8)) = (nI 4)) → P (some (.inl (nI 20))) M)))) ∧ (¬ (¬ z = (nI 2)) → (¬ (x - x / (nI 8) * (nI 8)) = (nI 3) → (¬ z = (nI 3) → (¬ z = (nI 3) → P (some (.inl ((nI 2) * (x - x / (nI 8) * (nI 8))))) M) ∧ (¬ (¬ z = (nI 3)) → ((nI 1) = 0 → P (some (.inl ((nI 2) * (x - x / (nI 8) * (nI 8))))) M) ∧ (¬ (nI 1) = 0 → (¬ (x - x / (nI 8) * (nI 8)) = (nI 2) → P (some (.inl ((nI 2) * (x - x / (nI 8) * (nI 8))))) M) ∧ (¬ (¬ (x - x / (nI 8) * (nI 8)) = (nI 2)) → P (some (.inl (nI 18))) M)))) ∧ (¬ (¬ z = (nI 3)) → ((nI 1) = 0 → (¬ z = (nI 3) → P (some (.inl ((nI 2) * (x - x / (nI 8) * (nI 8))))) M) ∧ (¬ (¬ z = (nI 3)) → ((nI 1) = 0 → P (some (.inl ((nI 2) * (x - x / (nI 8) * (nI 8))))) M) ∧ (¬ (nI 1) = 0 → (¬ (x - x / (nI 8) * (nI 8)) = (nI 2) → P (some (.inl ((nI 2) * (x - x / (nI 8) * (nI 8))))) M) ∧ (¬ (¬ (x - x / (nI 8) * (nI 8)) = (nI 2)) → P (some (.inl (nI 18))) M)))) ∧ (¬ (nI 1) = 0 → (¬ (x - x / (nI 8) * (nI 8)) = (nI 4) → (¬ z = (nI 3) → P (some (.inl ((nI 2) * (x - x / (nI 8) * (nI 8))))) M) ∧ (¬ (¬ z = (nI 3)) → ((nI 1) = 0 → P (some (.inl ((nI 2) * (x - x / (nI 8) * (nI 8))))) M) ∧ (¬ (nI 1) = 0 → (¬ (x - x / (nI 8) * (nI 8)) = (nI 2) → P (some (.inl ((nI 2) * (x - x / (nI 8) * (nI 8))))) M) ∧ (¬ (¬ (x - x / (nI 8) * (nI 8)) = (nI 2)) → P (some (.inl (nI 18))) M)))) ∧ (¬ (¬ (x - x / (nI 8) * (nI 8)) = (nI 4)) → P (some (.inl (nI 20))) M)))) ∧ (¬ (¬ (x - x / (nI 8) * (nI 8)) = (nI 3)) → P (some (.inl (nI 13))) M))) ∧ (¬ (¬ z = (nI 1)) → P (some (.inl ((nI 2) * ((nI 7) - (x - x / (nI 8) * (nI 8)))))) M))))) :
    mRun (mSx g) (f_X8_strengthBy g) P (0, [some (.inl x), some (.inl y), some (.inl z), none, none], [], M) := mRun.vc (m_X8_strengthBy g) [] 41 h

set_option maxHeartbeats 4000000 in
theorem run_X8_strengthBy : mRunOf 5 t_X8_strengthBy f_X8_strengthBy := runP3 (by decide) (fun g M P x y z h => v_X8_strengthBy g M P x y z (by
    (repeat' (first | (refine ⟨?_, ?_⟩) | (intro _)))
    all_goals first | decide | (refine mP_eq h ?_; unfold fStrB; (try unfold mb); (repeat' split) <;> first | rfl | (simp_all; done) | (exfalso; simp (disch := decide) only [fa_lt, fa_le, fa_eq, nI_toInt, Int32.toInt_zero] at * <;> omega)) | (exfalso; simp (disch := decide) only [fa_lt, fa_le, fa_eq, nI_toInt, Int32.toInt_zero] at * <;> omega) | skip))
theorem ok_X8_strengthBy : mOK yX8_strengthBy cX8_strengthBy 5 (some .int) 1 t_X8_strengthBy := mOK.of f_X8_strengthBy (by decide) (fun _ => rfl) (fun g => mCodeOK kk_X8_strengthBy) (fun g => mFldL fk_RX8 rfl) (fun g idx v h => by cases h) (fun g idx v h => by cases h) (mCalL (l := l_X8_strengthBy) (fun _ h => absurd h List.not_mem_nil) (fun _ => rfl)) run_X8_strengthBy

abbrev t_X8_ofSuit : mG → mT := mP2 fOfS
theorem mo_X8_ofSuit : mMn t_X8_ofSuit := mP2_mono
def k_X8_ofSuit : List (Nat × mI) := [(0, .iload_n 1, 1, 1, 0, []),
  (1, .iconst 4, 1, 0, nI 4, []),
  (2, .if_icmp .ne 7, 3, 9, 0, []),
  (5, .iconst 0, 1, 0, nI 0, []),
  (6, .goto 13, 3, 19, 0, []),
  (9, .iload_n 0, 1, 0, 0, []),
  (10, .sipush 255, 3, 0, nI 255, []),
  (13, .bipush 8, 2, 0, nI 8, []),
  (15, .iload_n 1, 1, 1, 0, []),
  (16, .imul, 1, 0, 0, []),
  (17, .ishl, 1, 0, 0, []),
  (18, .iand, 1, 0, 0, []),
  (19, .ireturn, 1, 0, 0, [])]
theorem kk_X8_ofSuit : (k_X8_ofSuit.all fun e => mChk cX8_ofSuit e.1 e.2) = true := by decide +kernel
def l_X8_ofSuit : List (Nat × Nat × (mG → mT)) := []
def f_X8_ofSuit (g : mG) : mF := (mLk k_X8_ofSuit, mLk fl_RX8, mLk (l_X8_ofSuit.map fun e => (e.1, e.2.1, e.2.2 g)), mLk ([] : List (Nat × mV)), mLk ([] : List (Nat × mV)), some .int)
theorem m_X8_ofSuit (g : mG) : mMono (f_X8_ofSuit g) := mMonoL (g := g) (l := l_X8_ofSuit) (fun _ h => absurd h List.not_mem_nil) rfl

theorem v_X8_ofSuit (g : mG) (M : mM) (P : mP) (x y : Int32)
    (h : (¬ y = (nI 4) → P (some (.inl (x &&& ((nI 255) <<< (((nI 8) * y) &&& 31))))) M) ∧ (¬ (¬ y = (nI 4)) → P (some (.inl (nI 0))) M)) :
    mRun (mSx g) (f_X8_ofSuit g) P (0, [some (.inl x), some (.inl y)], [], M) := mRun.vc (m_X8_ofSuit g) [] 11 h

set_option maxHeartbeats 4000000 in
theorem run_X8_ofSuit : mRunOf 2 t_X8_ofSuit f_X8_ofSuit := runP2 (by decide) (fun g M P x y h => v_X8_ofSuit g M P x y (by
    (repeat' (first | (refine ⟨?_, ?_⟩) | (intro _)))
    all_goals first | decide | (refine mP_eq h ?_; unfold fOfS; (try unfold mb); (repeat' split) <;> first | rfl | (simp_all; done) | (exfalso; simp (disch := decide) only [fa_lt, fa_le, fa_eq, nI_toInt, Int32.toInt_zero] at * <;> omega)) | (exfalso; simp (disch := decide) only [fa_lt, fa_le, fa_eq, nI_toInt, Int32.toInt_zero] at * <;> omega) | skip))
theorem ok_X8_ofSuit : mOK yX8_ofSuit cX8_ofSuit 2 (some .int) 1 t_X8_ofSuit := mOK.of f_X8_ofSuit (by decide) (fun _ => rfl) (fun g => mCodeOK kk_X8_ofSuit) (fun g => mFldL fk_RX8 rfl) (fun g idx v h => by cases h) (fun g idx v h => by cases h) (mCalL (l := l_X8_ofSuit) (fun _ h => absurd h List.not_mem_nil) (fun _ => rfl)) run_X8_ofSuit

