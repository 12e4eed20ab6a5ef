theorem mRun_sim {p : Program} {l : Launch} {e : Env} {R : Room} {s : State} {m : MethodId} {args : Array Value} {below : List Frame} {meth : Method} {c : Code} {cells slots : Nat} {cc : ByteArray} {D : va_G} {A : Nat → Prop} {ad : Nat → Nat} {cy : Nat → ClassId} {SH : List mH} {own : String} {Ts : List Cond} {nL : Nat} {F : mF} {P : mP}
    {Qc : Array Value → State → Outcome → State → Prop} (hx : p.tables.exec = Jvm.exec) (hb : c.code = cc) (hml : c.maxLocals = nL) (hr : meth.sig.returnType = F.2.2.2.2.2) (hlk : meth.locks = false) (hts : ∀ w ∈ Ts, w.before args s = true) (hown : s.vm.findClass own = some m.cls)
    (hK : va_K D vwCl (mTys cy) s) (hD : ∀ M, va_D A (mWs ad cy SH M)) (hfld : mFldOK own F Ts) (hcst : mCstOK own F ad args s) (hsta : mStaOK own F ad A s Ts) (hstr : mStr ad A s s.heap) (hcal : mCalOK p l e R s m args below meth c cells slots (MQ below Qc args s cells slots A) D A ad cy SH nL cc F) (hend : mEndOK s args D A ad cy SH P Qc)
    (hcode : ∀ (pc : Nat) (x : mI), F.1 pc = some x → mChk cc pc x = true) {σ : mS} (h : mRun SH F P σ) : mX p l e R s m args below meth c cells slots (MQ below Qc args s cells slots A) D A ad cy SH nL σ := by
  refine h _ (fun σ' w => ?_)
  unfold mWp at w
  split at w
  · exact w.elim
  · rename_i x hx2
    have hc := hcode _ _ hx2
    unfold mChk at hc
    simp only [Bool.and_eq_true, decide_eq_true_eq] at hc
    exact mOp_sim hx hb hml hr hlk hts hown hK hD hfld hcst hsta hstr hcal hend hc.1 hc.2 w
/-- constants by their words -/
def mCstT (own : String) (F : mG → mF) : Prop := ∀ (g : mG) (idx : Nat) (v : mV), (F g).2.2.2.1 idx = some v → (∃ x, v = .inl x ∧ Cond.constant own idx x ∈ mGW) ∨ (∃ (i : Nat) (tx : String), v = .inr (some (1000 + i)) ∧ ((own, idx, tx, i) : String × Nat × String × Nat) ∈ ([("TrickHouse", 326, "deal", 0), ("TrickHouse", 328, "bid", 1), ("TrickHouse", 330, "pass", 2), ("TrickHouse", 332, "double", 3), ("TrickHouse", 334, "redouble", 4), ("TrickHouse", 336, "play", 5), ("TrickHouse", 337, "claim", 6), ("TrickHouse", 339, "rank", 7), ("TrickHouse", 341, "rule", 8), ("TrickHouse", 343, "", 9), ("TrickHouseModel", 267, "c", 10), ("TrickHouseModel", 269, "d", 11), ("TrickHouseModel", 271, "h", 12), ("TrickHouseModel", 273, "s", 13), ("TrickHouseModel", 275, "n", 14), ("TrickHouseModel", 243, "deal", 0), ("TrickHouseModel", 245, "bid", 1), ("TrickHouseModel", 246, "pass", 2), ("TrickHouseModel", 248, "double", 3), ("TrickHouseModel", 250, "redouble", 4), ("TrickHouseModel", 252, "play", 5), ("TrickHouseModel", 254, "claim", 6), ("TrickHouseModel", 256, "rank", 7), ("TrickHouseModel", 258, "rule", 8), ("TrickHouseModel", 326, "cdhsn", 15), ("TrickHouseModel", 335, " ", 16)] : List (String × Nat × String × Nat)))
/-- statics by their links -/
def mStaT (own : String) (F : mG → mF) : Prop := ∀ (g : mG) (idx : Nat) (v : mV), (F g).2.2.2.2.1 idx = some v →
  (v = .inl 1 ∧ Cond.fieldLink own idx "java/lang/String" "COMPACT_STRINGS" "Z" ∈ mGW) ∨ (v = .inr (some 1200) ∧ Cond.fieldLink own idx "java/lang/Integer" "DigitTens" "[B" ∈ mGW) ∨ (v = .inr (some 1201) ∧ Cond.fieldLink own idx "java/lang/Integer" "DigitOnes" "[B" ∈ mGW) ∨
  (v = .inr g.2.2.2.1 ∧ Cond.fieldLink own idx "jdk/internal/util/Preconditions" "SIOOBE_FORMATTER" "Ljava/util/function/BiFunction;" ∈ mGW)
set_option maxHeartbeats 1000000 in
/-- a method's contract out of the small machine's run of it -/
theorem mOK.of {y : MethodName} {bytes : ByteArray} {maxL : Nat} {ret : Option FieldType} {d : Nat} {T : mG → mT} (F : mG → mF) (hy : plainName y.cls = true) (hret : ∀ g, (F g).2.2.2.2.2 = ret) (hcode : ∀ (g : mG) (pc : Nat) (x : mI), (F g).1 pc = some x → mChk bytes pc x = true)
    (hfld : ∀ g, mFldOK y.cls (F g) mGW) (hcst : mCstT y.cls F) (hsta : mStaT y.cls F) (hcal : ∀ (g : mG) (key n : Nat) (T' : mT), (F g).2.2.1 key = some (n, T') → ∃ T2 : mG → mT, T' = T2 g ∧ mSite y.cls d key n T2)
    (hrun : ∀ (g : mG) (as : List mV) (M : mM) (P : mP), T g as M P → as.length ≤ maxL ∧ mRun (mSx g) (F g) P (0, as.map some ++ List.replicate (maxL - as.length) none, [], M)) : mOK y bytes maxL ret d T := by
  intro l g sz as M P hT
  obtain ⟨hlen, hrun⟩ := hrun g as M P hT
  refine Met.ofW (cc := bytes) (maxL := maxL) (ret := ret) hy rfl ?_
  intro p e s m args below meth c s₁ B hml hv
  obtain ⟨rfl, hsz, hP, hD, hE⟩ := hv
  have hx := B.exec
  have hb := B.bytes
  have hr := B.returns
  have hts := atoms_spec (ws := mWd y bytes maxL ret) B.pre
  have hown : s.vm.findClass y.cls = some m.cls := findClass_of_methodNamed B.named
  subst hsz
  have hts' : ∀ w ∈ mGW, w.before (as.map (mval g.1)).toArray s = true := fun w h => hts w (List.mem_cons_of_mem _ h)
  obtain ⟨ls, hls, hL⟩ := mLH.entry (ad := g.1) as (n := maxL) hlen
  have hDs : ∀ M' : mM, va_D (mA g s.heap.size) (mWs g.1 g.2.2.1 (mSx g) M') := fun M' => mDself hD
  have hsim := mRun_sim (p := p) (l := l) (e := e) (R := mRm d) (below := below) (cells := 0) (slots := 0) (Qc := mQ g P (mA g s.heap.size)) hx hb hml (hr.trans (hret g).symm) B.notSynchronized hts' hown hE.1 hDs (hfld g)
    (by
      intro idx v h
      rcases hcst g idx v h with ⟨x, h1, h2⟩ | ⟨i, tx, h1, h2⟩
      · exact Or.inl ⟨x, h1, hts' _ h2⟩
      · exact Or.inr ⟨1000 + i, tx, h1, hE.2.2.1 _ h2⟩)
    (by
      intro idx v h
      obtain ⟨-, -, -, -, z1, z2, z3, z4⟩ := hE
      rcases hsta g idx v h with ⟨rfl, h2⟩ | ⟨rfl, h2⟩ | ⟨rfl, h2⟩ | ⟨rfl, h2⟩
      · exact ⟨_, _, _, z1, h2⟩
      · exact ⟨_, _, _, z2, h2⟩
      · exact ⟨_, _, _, z3, h2⟩
      · exact ⟨_, _, _, z4, h2⟩)
    hE.2.2.2.1
    (by
      intro key n T' h
      obtain ⟨T2, rfl, h2⟩ := hcal g key n T' h
      exact h2 g hx hb hml hown hts' (hDs _) hE)
    (by
      intro r M' H locs hPr hP' hS' t ht hW
      exact ⟨⟨r, M', rfl, hPr, by rw [ht]; exact hP'⟩, hS'.F ht⟩)
    (hcode g) hrun
  have := hsim s.heap [] ls hP va_S.rf hL
  rw [lg_entry_eq, hls]
  exact this
theorem mRm_call {d d' maxL : Nat} (hd : d' < d) (hm : maxL ≤ 29) : (mRm d').frames + 1 ≤ (mRm d).frames ∧ 8 + (maxL + 11) + (mRm d').locals ≤ (mRm d).locals := by
  simp only [mRm]
  omega
theorem mGoodIn {y : MethodName} {bytes : ByteArray} {maxL : Nat} {ret : Option FieldType} (h : Cond.code y bytes maxL ret ∈ mGW) : GoodIn mGW (mWd y bytes maxL ret) := by
  intro w hw
  rcases List.mem_cons.mp hw with rfl | hw
  · exact ⟨h, Or.inl (by rfl)⟩
  · exact ⟨hw, (mGW_good w hw).2⟩
/-- behind a call: the world, and the rest of the walk -/
theorem mBack {p : Program} {l : Launch} {e : Env} {R : Room} {s : State} {m : MethodId} {args : Array Value} {below : List Frame} {meth : Method} {c : Code} {Q : State → Prop} {H : Heap} {locs : List Loc} {g : mG} {a : Array Value} {P : mP} {pc : Nat} {ls : Array Slot} {st0 : List Value} {rest : List mV}
    (hr : va_Run p l e R s m args below meth c H locs 0 0 0 0 (F0 m pc ls st0) (rest.map (mval g.1)) (mQ g P (mA g H.size) a) (mA g H.size)) (hS : va_S (mA g s.heap.size) s.heap H locs)
    (kk : ∀ (r : Option mV) (M' : mM) (H' : Heap) (locs' : List Loc), va_P g.2.1 vwCl (mWs g.1 g.2.2.1 (mSx g) M') H' → va_S (mA g s.heap.size) s.heap H' locs' → P r M' → W p l e R s m args below meth c H' locs' 0 0 Q (F0 m (pc + 3) ls ((mRes r rest).map (mval g.1)))) :
    W p l e R s m args below meth c H locs 0 0 Q (F0 m pc ls st0) := by
  intro T hT X
  obtain ⟨v, st₀, t, T', L, h0, X', hL, e1, e2, ⟨⟨r, M', hv, hp, hw⟩, hz, hk⟩, st⟩ := hr T hT X
  cases hv
  rw [h0] at hz hk
  have hA : ∀ q, q < H.size → mA g H.size q → mA g s.heap.size q := fun q hq h => by
    rcases h with h | h
    · exact Or.inl h
    · omega
  have hf : ∀ q, mA g H.size q → mA g s.heap.size q := fun q h => by
    rcases h with h | h
    · exact Or.inl h
    · exact Or.inr (Nat.le_trans hS.1 h)
  have hS' : va_S (mA g s.heap.size) s.heap T'.heap (locs ++ L) := ⟨Nat.le_trans hS.1 (by rw [e1]; exact hz), fun q h1 h2 => by rw [e1, hk q (Nat.lt_of_lt_of_le h1 hS.1) (fun z => h2 (hA q (Nat.lt_of_lt_of_le h1 hS.1) z))]; exact hS.2.1 q h1 h2, fun q hq => by
      rcases List.mem_append.mp hq with h | h
      · exact hS.2.2 q h
      · exact hf _ (hL q h)⟩
  obtain ⟨t2, a1, b1⟩ := kk r M' T'.heap (locs ++ L) (by rw [e1]; exact hw) hS' hp T' rfl X'
  refine ⟨t2, st t2 ?_, b1⟩
  have e3 : (r.map (mval g.1)).toList ++ rest.map (mval g.1) = (mRes r rest).map (mval g.1) := by cases r <;> rfl
  rw [e3]
  exact a1
/-- what a callee needs, of any state that the call makes -/
theorem mPre {s : State} {g : mG} {H : Heap} {locs : List Loc} {M : mM} (hD : va_D (mA g s.heap.size) (mWs g.1 g.2.2.1 (mSx g) (fun _ _ => 0))) (hE : mEnv g (mA g s.heap.size) s s.heap) (hP : va_P g.2.1 vwCl (mWs g.1 g.2.2.1 (mSx g) M) H) (hS : va_S (mA g s.heap.size) s.heap H locs) (U : State) (hU : U.heap = H) (hW : s.WarmedH U.vm) : mB g H.size M U := by
  refine ⟨by rw [hU], by rw [hU]; exact hP, (mWs_D hD M).weaken (fun _ _ _ _ => trivial), ?_⟩
  rw [hU]
  refine mEnv.warm hW ((hE.kept hS.2.1).narrow (fun q h => ?_))
  rcases h with h | h
  · exact Or.inl h
  · exact Or.inr (Nat.le_trans hS.1 h)
theorem mMonoT {T : mG → mT} (h : ∀ (g : mG) (a : List mV) (M : mM) (P Q : mP), (∀ r M', P r M' → Q r M') → T g a M P → T g a M Q) : True := trivial
