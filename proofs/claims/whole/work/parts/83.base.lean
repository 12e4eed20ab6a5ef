/-! ===== WORDS BEYOND mGW: which private methods of AbstractStringBuilder a StringBuilder selects ===== -/
def sXW : List Cond := [.selects RJ4 yJ5_ensureCapacityInternal_d00df yJ5_ensureCapacityInternal_d00df, .selects RJ4 yJ5_putStringAt_47b60 yJ5_putStringAt_47b60, .selects RJ4 yJ5_inflateIfNeededFor_a7421 yJ5_inflateIfNeededFor_a7421]
def xGW : List Cond := mGW ++ sXW
theorem xIn {w : Cond} (h : w ∈ mGW) : w ∈ xGW := List.mem_append_left _ h
theorem xInP {w : Cond} (i : Nat) (h : sXW[i]? = some w) : w ∈ xGW := List.mem_append_right _ (List.mem_of_getElem? h)
theorem xGood : ∀ w ∈ xGW, (w.onTables && w.keeps) = true ∨ ∃ ty, w = .arrayClass ty := fun w h => by
  rcases List.mem_append.mp h with h | h
  · exact (mGW_good w h).2
  · have : ∀ v ∈ sXW, (v.onTables && v.keeps) = true := by decide
    exact Or.inl (this w h)
theorem xGoodIn {W : List Cond} {y : MethodName} {bytes : ByteArray} {maxL : Nat} {ret : Option FieldType} (hW : ∀ w ∈ W, w ∈ xGW) (h : Cond.code y bytes maxL ret ∈ mGW) : GoodIn xGW (.code y bytes maxL ret :: W) := by
  intro w hw
  rcases List.mem_cons.mp hw with rfl | hw
  · exact ⟨xIn h, Or.inl (by rfl)⟩
  · exact ⟨hW w hw, xGood w (hW w hw)⟩
/-! ===== CONTRACTS OVER ANY BASE OF CELLS (a StringBuilder by itself, a Table by itself) ===== -/
def xS (B : List mH) (g : mG) : List mH := B ++ g.2.2.2.2
/-- the addresses that a method may write: its cells, and what is new -/
def xA (B : List mH) (g : mG) (sz : Nat) : Nat → Prop := fun q => (∃ c, c < (xS B g).length ∧ g.1 c = q) ∨ sz ≤ q
def xB (B : List mH) (g : mG) (sz : Nat) (M : mM) : State → Prop := fun U => U.heap.size = sz ∧ va_P g.2.1 vwCl (mWs g.1 g.2.2.1 (xS B g) M) U.heap ∧ va_D (fun _ => True) (mWs g.1 g.2.2.1 (xS B g) M) ∧ mEnv g (xA B g sz) U U.heap
def xQ (B : List mH) (g : mG) (P : mP) (A : Nat → Prop) : Array Value → State → Outcome → State → Prop := fun _ st oc t => (∃ (r : Option mV) (M' : mM), oc = .returned (r.map (mval g.1)) ∧ P r M' ∧ va_P g.2.1 vwCl (mWs g.1 g.2.2.1 (xS B g) M') t.heap) ∧ va_F A st t
/-- method y meets, at room level d, what T says of it -/
def xOKw (W : List Cond) (B : List mH) (y : MethodName) (bytes : ByteArray) (maxL : Nat) (ret : Option FieldType) (d : Nat) (T : mG → mT) : Prop :=
  ∀ (l : Launch) (g : mG) (sz : Nat) (as : List mV) (M : mM) (P : mP), T g as M P → Met l y (.code y bytes maxL ret :: W) (mRm d) (va_Pc (as.map (mval g.1)) (xB B g sz M)) (xQ B g P (xA B g sz)) 0 0 (xA B g sz)
abbrev xOK (B : List mH) (y : MethodName) (bytes : ByteArray) (maxL : Nat) (ret : Option FieldType) (d : Nat) (T : mG → mT) : Prop := xOKw xGW B y bytes maxL ret d T
theorem xOKm {y : MethodName} {bytes : ByteArray} {maxL : Nat} {ret : Option FieldType} {d : Nat} {T : mG → mT} (h : mOK y bytes maxL ret d T) : xOKw mGW mSH y bytes maxL ret d T := fun l g sz as M P hT => h l g sz as M P hT
theorem xB_blind {B : List mH} {g : mG} {sz : Nat} {M : mM} {av : List Value} : FrameBlind (va_Pc av (xB B g sz M)) := by
  intro a U gf mk h
  obtain ⟨h1, h2, h3, h4, h5⟩ := h
  exact ⟨h1, h2, h3, h4, mEnv.same (u := U) (U := U.calling gf mk a) rfl h5⟩
theorem xDself {B : List mH} {g : mG} {M M' : mM} {sz : Nat} (h : va_D (fun _ => True) (mWs g.1 g.2.2.1 (xS B g) M)) : va_D (xA B g sz) (mWs g.1 g.2.2.1 (xS B g) M') :=
  (mWs_D h M').weaken (fun k q hk _ => Or.inl ⟨k, (mWs_at hk).1, (mWs_at hk).2.symm⟩)
/-- a call's site, in class own at room level d -/
def xSite (B : List mH) (own : String) (d key n : Nat) (T : mG → mT) : Prop :=
  ∀ {p : Program} {l : Launch} {e : Env} {s : State} {m : MethodId} {args : Array Value} {below : List Frame} {meth : Method} {c : Code} {Q : State → Prop} {cc : ByteArray} {nL : Nat} (g : mG), p.tables.exec = Jvm.exec → c.code = cc → c.maxLocals = nL → s.vm.findClass own = some m.cls → (∀ w ∈ xGW, w.before args s = true) → va_D (xA B g s.heap.size) (mWs g.1 g.2.2.1 (xS B g) (fun _ _ => 0)) → mEnv g (xA B g s.heap.size) s s.heap →
    mCallOK p l e (mRm d) s m args below meth c 0 0 Q g.2.1 (xA B g s.heap.size) g.1 g.2.2.1 (xS B g) nL cc key n (T g)
set_option maxHeartbeats 1000000 in
/-- a method's contract out of the small machine's run of it -/
theorem xOK.of {B : List mH} {y : MethodName} {bytes : ByteArray} {maxL : Nat} {ret : Option FieldType} {d : Nat} {T : mG → mT} (F : mG → mF) (hy : plainName y.cls = true) (hret : ∀ g, (F g).2.2.2.2.2 = ret) (hcode : ∀ (g : mG) (pc : Nat) (x : mI), (F g).1 pc = some x → mChk bytes pc x = true)
    (hfld : ∀ g, mFldOK y.cls (F g) mGW) (hcst : mCstT y.cls F) (hsta : mStaT y.cls F) (hcal : ∀ (g : mG) (key n : Nat) (T' : mT), (F g).2.2.1 key = some (n, T') → ∃ T2 : mG → mT, T' = T2 g ∧ xSite B y.cls d key n T2)
    (hrun : ∀ (g : mG) (as : List mV) (M : mM) (P : mP), T g as M P → as.length ≤ maxL ∧ mRun (xS B g) (F g) P (0, as.map some ++ List.replicate (maxL - as.length) none, [], M)) : xOK B y bytes maxL ret d T := by
  intro l g sz as M P hT
  obtain ⟨hlen, hrun⟩ := hrun g as M P hT
  refine Met.ofW (cc := bytes) (maxL := maxL) (ret := ret) hy rfl ?_
  intro p e s m args below meth c s₁ Bd hml hv
  obtain ⟨rfl, hsz, hP, hD, hE⟩ := hv
  have hx := Bd.exec
  have hb := Bd.bytes
  have hr := Bd.returns
  have hts := atoms_spec (ws := .code y bytes maxL ret :: xGW) Bd.pre
  have hown : s.vm.findClass y.cls = some m.cls := findClass_of_methodNamed Bd.named
  subst hsz
  have hts' : ∀ w ∈ mGW, w.before (as.map (mval g.1)).toArray s = true := fun w h => hts w (List.mem_cons_of_mem _ (xIn h))
  obtain ⟨ls, hls, hL⟩ := mLH.entry (ad := g.1) as (n := maxL) hlen
  have hDs : ∀ M' : mM, va_D (xA B g s.heap.size) (mWs g.1 g.2.2.1 (xS B g) M') := fun M' => xDself hD
  have hsim := mRun_sim (p := p) (l := l) (e := e) (R := mRm d) (below := below) (cells := 0) (slots := 0) (Qc := xQ B g P (xA B g s.heap.size)) hx hb hml (hr.trans (hret g).symm) Bd.notSynchronized hts' hown hE.1 hDs (hfld g)
    (by
      intro idx v h
      rcases hcst g idx v h with ⟨x, h1, h2⟩ | ⟨i, tx, h1, h2⟩
      · exact Or.inl ⟨x, h1, hts' _ h2⟩
      · exact Or.inr ⟨1000 + i, tx, h1, hE.2.2.1 _ h2⟩)
    (by
      intro idx v h
      obtain ⟨-, -, -, -, z1, z2, z3, z4⟩ := hE
      rcases hsta g idx v h with ⟨rfl, h2⟩ | ⟨rfl, h2⟩ | ⟨rfl, h2⟩ | ⟨rfl, h2⟩
      · exact ⟨_, _, _, z1, h2⟩
      · exact ⟨_, _, _, z2, h2⟩
      · exact ⟨_, _, _, z3, h2⟩
      · exact ⟨_, _, _, z4, h2⟩)
    hE.2.2.2.1
    (by
      intro key n T' h
      obtain ⟨T2, rfl, h2⟩ := hcal g key n T' h
      exact h2 g hx hb hml hown (fun w h => hts w (List.mem_cons_of_mem _ h)) (hDs _) hE)
    (by
      intro r M' H locs hPr hP' hS' t ht hW
      exact ⟨⟨r, M', rfl, hPr, by rw [ht]; exact hP'⟩, hS'.F ht⟩)
    (hcode g) hrun
  have := hsim s.heap [] ls hP va_S.rf hL
  rw [lg_entry_eq, hls]
  exact this
/-- behind a call: the world, and the rest of the walk -/
theorem xBack {B : List mH} {p : Program} {l : Launch} {e : Env} {R : Room} {s : State} {m : MethodId} {args : Array Value} {below : List Frame} {meth : Method} {c : Code} {Q : State → Prop} {H : Heap} {locs : List Loc} {g : mG} {a : Array Value} {P : mP} {pc : Nat} {ls : Array Slot} {st0 : List Value} {rest : List mV}
    (hr : va_Run p l e R s m args below meth c H locs 0 0 0 0 (F0 m pc ls st0) (rest.map (mval g.1)) (xQ B g P (xA B g H.size) a) (xA B g H.size)) (hS : va_S (xA B g s.heap.size) s.heap H locs)
    (kk : ∀ (r : Option mV) (M' : mM) (H' : Heap) (locs' : List Loc), va_P g.2.1 vwCl (mWs g.1 g.2.2.1 (xS B g) M') H' → va_S (xA B g s.heap.size) s.heap H' locs' → P r M' → W p l e R s m args below meth c H' locs' 0 0 Q (F0 m (pc + 3) ls ((mRes r rest).map (mval g.1)))) :
    W p l e R s m args below meth c H locs 0 0 Q (F0 m pc ls st0) := by
  intro T hT X
  obtain ⟨v, st₀, t, T', L, h0, X', hL, e1, e2, ⟨⟨r, M', hv, hp, hw⟩, hz, hk⟩, st⟩ := hr T hT X
  cases hv
  rw [h0] at hz hk
  have hA : ∀ q, q < H.size → xA B g H.size q → xA B g s.heap.size q := fun q hq h => by
    rcases h with h | h
    · exact Or.inl h
    · omega
  have hf : ∀ q, xA B g H.size q → xA B g s.heap.size q := fun q h => by
    rcases h with h | h
    · exact Or.inl h
    · exact Or.inr (Nat.le_trans hS.1 h)
  have hS' : va_S (xA B g s.heap.size) s.heap T'.heap (locs ++ L) := ⟨Nat.le_trans hS.1 (by rw [e1]; exact hz), fun q h1 h2 => by rw [e1, hk q (Nat.lt_of_lt_of_le h1 hS.1) (fun z => h2 (hA q (Nat.lt_of_lt_of_le h1 hS.1) z))]; exact hS.2.1 q h1 h2, fun q hq => by
      rcases List.mem_append.mp hq with h | h
      · exact hS.2.2 q h
      · exact hf _ (hL q h)⟩
  obtain ⟨t2, a1, b1⟩ := kk r M' T'.heap (locs ++ L) (by rw [e1]; exact hw) hS' hp T' rfl X'
  refine ⟨t2, st t2 ?_, b1⟩
  have e3 : (r.map (mval g.1)).toList ++ rest.map (mval g.1) = (mRes r rest).map (mval g.1) := by cases r <;> rfl
  rw [e3]
  exact a1
/-- what a callee needs, of any state that the call makes -/
theorem xPre {B : List mH} {s : State} {g : mG} {H : Heap} {locs : List Loc} {M : mM} (hD : va_D (xA B g s.heap.size) (mWs g.1 g.2.2.1 (xS B g) (fun _ _ => 0))) (hE : mEnv g (xA B g s.heap.size) s s.heap) (hP : va_P g.2.1 vwCl (mWs g.1 g.2.2.1 (xS B g) M) H) (hS : va_S (xA B g s.heap.size) s.heap H locs) (U : State) (hU : U.heap = H) (hW : s.WarmedH U.vm) : xB B g H.size M U := by
  refine ⟨by rw [hU], by rw [hU]; exact hP, (mWs_D hD M).weaken (fun _ _ _ _ => trivial), ?_⟩
  rw [hU]
  refine mEnv.warm hW ((hE.kept hS.2.1).narrow (fun q h => ?_))
  rcases h with h | h
  · exact Or.inl h
  · exact Or.inr (Nat.le_trans hS.1 h)
def xHasR (B : List mH) (y : MethodName) (n : Nat) (T : mG → mT) : Prop := ∀ (g : mG) (as : List mV) (M : mM) (P : mP), T g as M P → as.length = n + 1 → ∃ (a : Nat) (rs : List mV), as = .inr (some a) :: rs ∧ mIsA (xS B g) y.cls a
theorem xIsA_recv {B : List mH} {s : State} {H : Heap} {locs : List Loc} {g : mG} {M : mM} {C : String} {a : Nat} (h : mIsA (xS B g) C a) (hE : mEnv g (xA B g s.heap.size) s s.heap) (hP : va_P g.2.1 vwCl (mWs g.1 g.2.2.1 (xS B g) M) H) (hS : va_S (xA B g s.heap.size) s.heap H locs) : ∃ cell : Cell, H[g.1 a]? = some cell ∧ cell.vm.isStatics = false ∧ s.vm.findClass C = some cell.cls := by
  rcases h with ⟨ci, sz, rs, q, h1, h2, rfl⟩ | ⟨rfl, h⟩
  · exact va_recv hE.1 hP h2 (mWs_get (M := M) h1)
  · have hq : 1000 ≤ a ∧ a < 1017 := by simpa [mRoS] using h
    obtain ⟨hs0, -⟩ := hE.2.2.2.1.1 (a - 1000) (by omega)
    rw [show 1000 + (a - 1000) = a by omega] at hs0
    obtain ⟨cell, h1, h2, h3, -⟩ := hs0.kept hS.2.1
    exact ⟨cell, h1, h2, h3⟩
theorem xSite.V {B : List mH} {own : String} {d d' n idx : Nat} {W : List Cond} {y : MethodName} {bytes : ByteArray} {maxL : Nat} {ret : Option FieldType} {T : mG → mT} (hM : xOKw W B y bytes maxL ret d' T) (hW : ∀ w ∈ W, w ∈ xGW) (hd : d' < d) (hm : maxL ≤ 29) (hrec : xHasR B y n T)
    (hcode : Cond.code y bytes maxL ret ∈ mGW) (hlink : Cond.methodLink own idx y ∈ mGW) (hinst : Cond.instanceMethod y ∈ mGW) (hsel : Cond.selects y.cls y y ∈ mGW) (hini : Cond.initialized y.cls ∈ mGW)
    (hy : y.cls ≠ "java/lang/invoke/MethodHandle" ∧ y.cls ≠ "java/lang/invoke/VarHandle" ∧ (parseMethodDescriptor y.desc).map (fun d => d.parameters.length) = some n) : xSite B own d (3 * idx) (n + 1) T := by
  intro p l e s m args below meth c Q cc nL g hx hb hml hown hts hD hE pc H locs ls M as rest Po hdg hP hS hsz hlen hrest hT kk
  have hts0 := hts
  have hts : ∀ w ∈ mGW, w.before args s = true := fun w h => hts0 w (xIn h)
  rw [mIns_v] at hdg
  obtain ⟨a, rs, rfl, hisa⟩ := hrec g as M Po hT hlen
  have hMet := hM l g H.size (.inr (some a) :: rs) M Po hT
  have hrun := va_runV (p := p) (l := l) (e := e) (R := mRm d) (s := s) (m := m) (args := args) (below := below) (meth := meth) (c := c) (H := H) (locs := locs) (cells := 0) (slots := 0) (own := own) (C := y.cls) (b := g.1 a) (As := rs.map (mval g.1)) (rest := rest.map (mval g.1)) (n := n) (index := idx) (g := F0 m pc ls (((Sum.inr (some a) :: rs).reverse ++ rest).map (mval g.1)))
    ⟨hx, hb, hml, hown, hts0⟩ hMet
    ⟨callB_of n hts0 (xGoodIn hW hcode) rfl rfl rfl (hts _ hini) (hts _ hlink) hy (mRm_call hd hm), hts _ hinst, hts _ hsel⟩
    ⟨xB_blind, xIsA_recv hisa hE hP hS, fun U hU hW => ⟨rfl, xPre hD hE hP hS U hU hW⟩⟩ rfl (by simpa using hlen) hsz (by show List.map (mval g.1) _ = _; rw [mMap_rev]) (mRoomOK hrest) hdg ⟨Nat.zero_le _, Nat.zero_le _⟩
  exact xBack hrun hS kk
theorem xSite.VN {B : List mH} {own host : String} {d d' n idx : Nat} {W : List Cond} {y : MethodName} {bytes : ByteArray} {maxL : Nat} {ret : Option FieldType} {T : mG → mT} (hM : xOKw W B y bytes maxL ret d' T) (hW : ∀ w ∈ W, w ∈ xGW) (hd : d' < d) (hm : maxL ≤ 29) (hrec : xHasR B y n T)
    (hcode : Cond.code y bytes maxL ret ∈ mGW) (hlink : Cond.methodLinkNest own idx y host ∈ lw_tbl) (hinst : Cond.instanceMethod y ∈ mGW) (hsel : Cond.selects y.cls y y ∈ mGW) (hini : Cond.initialized y.cls ∈ mGW)
    (hy : y.cls ≠ "java/lang/invoke/MethodHandle" ∧ y.cls ≠ "java/lang/invoke/VarHandle" ∧ (parseMethodDescriptor y.desc).map (fun d => d.parameters.length) = some n) : xSite B own d (3 * idx) (n + 1) T := by
  intro p l e s m args below meth c Q cc nL g hx hb hml hown hts hD hE pc H locs ls M as rest Po hdg hP hS hsz hlen hrest hT kk
  have hts0 := hts
  have hts : ∀ w ∈ mGW, w.before args s = true := fun w h => hts0 w (xIn h)
  rw [mIns_v] at hdg
  obtain ⟨a, rs, rfl, hisa⟩ := hrec g as M Po hT hlen
  have hMet := hM l g H.size (.inr (some a) :: rs) M Po hT
  have hrun := va_runVN (p := p) (l := l) (e := e) (R := mRm d) (s := s) (m := m) (args := args) (below := below) (meth := meth) (c := c) (H := H) (locs := locs) (cells := 0) (slots := 0) (own := own) (C := y.cls) (host := host) (b := g.1 a) (As := rs.map (mval g.1)) (rest := rest.map (mval g.1)) (n := n) (index := idx) (g := F0 m pc ls (((Sum.inr (some a) :: rs).reverse ++ rest).map (mval g.1)))
    ⟨hx, hb, hml, hown, hts0⟩ hMet
    ⟨va_cnB n hts0 (xGoodIn hW hcode) rfl rfl rfl (hE.2.1 _ hlink rfl) (hts _ hini) hy (mRm_call hd hm), hts _ hinst, hts _ hsel⟩
    ⟨xB_blind, xIsA_recv hisa hE hP hS, fun U hU hW => ⟨rfl, xPre hD hE hP hS U hU hW⟩⟩ rfl (by simpa using hlen) hsz (by show List.map (mval g.1) _ = _; rw [mMap_rev]) (mRoomOK hrest) hdg ⟨Nat.zero_le _, Nat.zero_le _⟩
  exact xBack hrun hS kk
theorem xSite.S {B : List mH} {own : String} {d d' n idx : Nat} {W : List Cond} {y : MethodName} {bytes : ByteArray} {maxL : Nat} {ret : Option FieldType} {T : mG → mT} (hM : xOKw W B y bytes maxL ret d' T) (hW : ∀ w ∈ W, w ∈ xGW) (hd : d' < d) (hm : maxL ≤ 29)
    (hcode : Cond.code y bytes maxL ret ∈ mGW) (hlink : Cond.methodLink own idx y ∈ mGW) (hst : Cond.static y ∈ mGW) (hini : Cond.initialized y.cls ∈ mGW)
    (hy : y.cls ≠ "java/lang/invoke/MethodHandle" ∧ y.cls ≠ "java/lang/invoke/VarHandle" ∧ (parseMethodDescriptor y.desc).map (fun d => d.parameters.length) = some n) : xSite B own d (3 * idx + 1) n T := by
  intro p l e s m args below meth c Q cc nL g hx hb hml hown hts hD hE pc H locs ls M as rest Po hdg hP hS hsz hlen hrest hT kk
  have hts0 := hts
  have hts : ∀ w ∈ mGW, w.before args s = true := fun w h => hts0 w (xIn h)
  rw [mIns_s] at hdg
  have hMet := hM l g H.size as M Po hT
  have hrun := va_runS (p := p) (l := l) (e := e) (R := mRm d) (s := s) (m := m) (args := args) (below := below) (meth := meth) (c := c) (H := H) (locs := locs) (cells := 0) (slots := 0) (own := own) (As := as.map (mval g.1)) (rest := rest.map (mval g.1)) (n := n) (index := idx) (g := F0 m pc ls ((as.reverse ++ rest).map (mval g.1)))
    ⟨hx, hb, hml, hown, hts0⟩ hMet
    ⟨callB_of n hts0 (xGoodIn hW hcode) rfl rfl rfl (hts _ hini) (hts _ hlink) hy (mRm_call hd hm), hts _ hst⟩
    ⟨xB_blind, fun U hU hW => ⟨rfl, xPre hD hE hP hS U hU hW⟩⟩ rfl (by simpa using hlen) hsz (by show List.map (mval g.1) _ = _; rw [mMap_rev0]) (mRoomOK hrest) hdg ⟨Nat.zero_le _, Nat.zero_le _⟩
  exact xBack hrun hS kk
theorem xSite.SN {B : List mH} {own host : String} {d d' n idx : Nat} {W : List Cond} {y : MethodName} {bytes : ByteArray} {maxL : Nat} {ret : Option FieldType} {T : mG → mT} (hM : xOKw W B y bytes maxL ret d' T) (hW : ∀ w ∈ W, w ∈ xGW) (hd : d' < d) (hm : maxL ≤ 29)
    (hcode : Cond.code y bytes maxL ret ∈ mGW) (hlink : Cond.methodLinkNest own idx y host ∈ lw_tbl) (hst : Cond.static y ∈ mGW) (hini : Cond.initialized y.cls ∈ mGW)
    (hy : y.cls ≠ "java/lang/invoke/MethodHandle" ∧ y.cls ≠ "java/lang/invoke/VarHandle" ∧ (parseMethodDescriptor y.desc).map (fun d => d.parameters.length) = some n) : xSite B own d (3 * idx + 1) n T := by
  intro p l e s m args below meth c Q cc nL g hx hb hml hown hts hD hE pc H locs ls M as rest Po hdg hP hS hsz hlen hrest hT kk
  have hts0 := hts
  have hts : ∀ w ∈ mGW, w.before args s = true := fun w h => hts0 w (xIn h)
  rw [mIns_s] at hdg
  have hMet := hM l g H.size as M Po hT
  have hrun := va_runSN (p := p) (l := l) (e := e) (R := mRm d) (s := s) (m := m) (args := args) (below := below) (meth := meth) (c := c) (H := H) (locs := locs) (cells := 0) (slots := 0) (own := own) (host := host) (As := as.map (mval g.1)) (rest := rest.map (mval g.1)) (n := n) (index := idx) (g := F0 m pc ls ((as.reverse ++ rest).map (mval g.1)))
    ⟨hx, hb, hml, hown, hts0⟩ hMet
    ⟨va_cnB n hts0 (xGoodIn hW hcode) rfl rfl rfl (hE.2.1 _ hlink rfl) (hts _ hini) hy (mRm_call hd hm), hts _ hst, trivial⟩
    ⟨xB_blind, fun U hU hW => ⟨rfl, xPre hD hE hP hS U hU hW⟩⟩ rfl (by simpa using hlen) hsz (by show List.map (mval g.1) _ = _; rw [mMap_rev0]) (mRoomOK hrest) hdg ⟨Nat.zero_le _, Nat.zero_le _⟩
  exact xBack hrun hS kk
theorem xSite.max {B : List mH} {own : String} {d idx : Nat} (hd : 0 < d) (hcode : Cond.code Lib.Math.max.name Lib.Math.max.code 2 (some .int) ∈ mGW) (hlink : Cond.methodLink own idx Lib.Math.max.name ∈ mGW) (hst : Cond.static Lib.Math.max.name ∈ mGW) (hini : Cond.initialized "java/lang/Math" ∈ mGW) : xSite B own d (3 * idx + 1) 2 tMax := by
  intro p l e s m args below meth c Q cc nL g hx hb hml hown hts hD hE pc H locs ls M as rest Po hdg hP hS hsz hlen hrest hT kk
  have hts0 := hts
  have hts : ∀ w ∈ mGW, w.before args s = true := fun w h => hts0 w (xIn h)
  rw [mIns_s] at hdg
  have hloc : ((rest.map (mval g.1)).map fun v => v.category).sum + 13 ≤ (mRm d).locals := by rw [mCats]; show rest.length + 13 ≤ 48 * d; omega
  unfold tMax at hT
  split at hT
  · rename_i x y
    exact va_mmax hx hb (hml.trans hsz.symm) hown (hts _ hlink) (hts _ hst) (hts _ hini) (hts _ hcode) (show 1 ≤ (mRm d).frames from hd) hloc (Nat.zero_le _) (Nat.zero_le _) hdg (kk _ M H locs hP hS hT)
  · exact hT.elim
theorem xSite.min {B : List mH} {own : String} {d idx : Nat} (hd : 0 < d) (hcode : Cond.code Lib.Math.min.name Lib.Math.min.code 2 (some .int) ∈ mGW) (hlink : Cond.methodLink own idx Lib.Math.min.name ∈ mGW) (hst : Cond.static Lib.Math.min.name ∈ mGW) (hini : Cond.initialized "java/lang/Math" ∈ mGW) : xSite B own d (3 * idx + 1) 2 tMin := by
  intro p l e s m args below meth c Q cc nL g hx hb hml hown hts hD hE pc H locs ls M as rest Po hdg hP hS hsz hlen hrest hT kk
  have hts0 := hts
  have hts : ∀ w ∈ mGW, w.before args s = true := fun w h => hts0 w (xIn h)
  rw [mIns_s] at hdg
  have hloc : ((rest.map (mval g.1)).map fun v => v.category).sum + 13 ≤ (mRm d).locals := by rw [mCats]; show rest.length + 13 ≤ 48 * d; omega
  unfold tMin at hT
  split at hT
  · rename_i x y
    exact va_mmin hx hb (hml.trans hsz.symm) hown (hts _ hlink) (hts _ hst) (hts _ hini) (hts _ hcode) (show 1 ≤ (mRm d).frames from hd) hloc (Nat.zero_le _) (Nat.zero_le _) hdg (kk _ M H locs hP hS hT)
  · exact hT.elim
theorem xCalL {B : List mH} {own : String} {d : Nat} {F : mG → mF} {l : List (Nat × Nat × (mG → mT))} (h : ∀ e ∈ l, xSite B own d e.1 e.2.1 e.2.2) (hF : ∀ g, (F g).2.2.1 = mLk (l.map fun e => (e.1, e.2.1, e.2.2 g))) : ∀ (g : mG) (key n : Nat) (T' : mT), (F g).2.2.1 key = some (n, T') → ∃ T2 : mG → mT, T' = T2 g ∧ xSite B own d key n T2 := by
  intro g key n T' hq
  rw [hF] at hq
  obtain ⟨e, he, e2⟩ := List.mem_map.mp (mLk_mem hq)
  cases e2
  exact ⟨e.2.2, rfl, h e he⟩
def xRunOf (B : List mH) (maxL : Nat) (T : mG → mT) (F : mG → mF) : Prop := ∀ (g : mG) (as : List mV) (M : mM) (P : mP), T g as M P → as.length ≤ maxL ∧ mRun (xS B g) (F g) P (0, as.map some ++ List.replicate (maxL - as.length) none, [], M)
/-- the receiver is an object of class C -/
def xHasC (B : List mH) (C : String) (n : Nat) (T : mG → mT) : Prop := ∀ (g : mG) (as : List mV) (M : mM) (P : mP), T g as M P → as.length = n + 1 → ∃ (a : Nat) (rs : List mV), as = .inr (some a) :: rs ∧ mIsA (xS B g) C a
theorem xSite.U {B : List mH} {own C : String} {d d' n idx : Nat} {W : List Cond} {y : MethodName} {bytes : ByteArray} {maxL : Nat} {ret : Option FieldType} {T : mG → mT} (hM : xOKw W B y bytes maxL ret d' T) (hW : ∀ w ∈ W, w ∈ xGW) (hd : d' < d) (hm : maxL ≤ 29) (hrec : xHasC B C n T)
    (hcode : Cond.code y bytes maxL ret ∈ mGW) (hlink : Cond.methodLink own idx y ∈ mGW) (hsame : Cond.sameMethod y.cls y.cls y.name y.desc ∈ mGW) (hinst : Cond.instanceMethod y ∈ mGW) (hsel : Cond.selects C y y ∈ xGW) (hini : Cond.initialized y.cls ∈ mGW)
    (hy : y.cls ≠ "java/lang/invoke/MethodHandle" ∧ y.cls ≠ "java/lang/invoke/VarHandle" ∧ (parseMethodDescriptor y.desc).map (fun d => d.parameters.length) = some n) : xSite B own d (3 * idx) (n + 1) T := by
  intro p l e s m args below meth c Q cc nL g hx hb hml hown hts hD hE pc H locs ls M as rest Po hdg hP hS hsz hlen hrest hT kk
  have hts0 := hts
  have hts : ∀ w ∈ mGW, w.before args s = true := fun w h => hts0 w (xIn h)
  rw [mIns_v] at hdg
  obtain ⟨a, rs, rfl, hisa⟩ := hrec g as M Po hT hlen
  have hMet := hM l g H.size (.inr (some a) :: rs) M Po hT
  have hrc := xIsA_recv hisa hE hP hS
  obtain ⟨cell, hc1, hc2, hc3⟩ := hrc
  have hs : (Cond.selects C y y).before args s = true := hts0 _ hsel
  have hcw : va_CU (mRm d) s args own C y.cls idx y y bytes maxL ret (.code y bytes maxL ret :: W) (mRm d') 0 0 n := by
    have hG := xGoodIn hW hcode
    refine ⟨⟨rfl, rfl, (mRm_call hd hm).1, (mRm_call hd hm).2, pay_in hts0 hG, List.mem_cons_self⟩, hts _ hcode, hts _ hini, ⟨hy.1, hy.2.1⟩, fun sig h => ?_, hts _ hlink, hts _ hsame, va_Decl.of (hts _ hinst) (hts _ hcode), hs, hts _ hinst⟩
    have h2 := hy.2.2
    rw [h] at h2
    exact (Option.some.inj h2).symm
  have hrun := va_runU (p := p) (l := l) (e := e) (R := mRm d) (s := s) (m := m) (args := args) (below := below) (meth := meth) (c := c) (H := H) (locs := locs) (cells := 0) (slots := 0) (own := own) (C := C) (owner := y.cls) (x := y) (b := g.1 a) (As := rs.map (mval g.1)) (rest := rest.map (mval g.1)) (n := n) (index := idx) (g := F0 m pc ls (((Sum.inr (some a) :: rs).reverse ++ rest).map (mval g.1)))
    ⟨hx, hb, hml, hown, hts0⟩ hMet hcw
    ⟨xB_blind, ⟨cell, hc1, hc2, hc3⟩, fun U hU hW => ⟨rfl, xPre hD hE hP hS U hU hW⟩⟩ rfl (by simpa using hlen) hsz (by show List.map (mval g.1) _ = _; rw [mMap_rev]) (mRoomOK hrest) hdg ⟨Nat.zero_le _, Nat.zero_le _⟩
  exact xBack hrun hS kk
theorem xSite.SU {B : List mH} {own : String} {d d' n idx ci : Nat} {q : vw_C} {W : List Cond} {y : MethodName} {bytes : ByteArray} {maxL : Nat} {ret : Option FieldType} {T : mG → mT} (hM : xOKw W B y bytes maxL ret d' T) (hW : ∀ w ∈ W, w ∈ xGW) (hd : d' < d) (hm : maxL ≤ 29) (hrec : xHasC B q.1 n T) (hq : vwCl[ci]? = some q)
    (hcode : Cond.code y bytes maxL ret ∈ mGW) (hlink : Cond.methodLink own idx y ∈ mGW) (hsame : Cond.sameMethod y.cls y.cls y.name y.desc ∈ mGW) (hsup : Cond.superclass own y.cls ∈ mGW) (hinst : Cond.instanceMethod y ∈ mGW) (hini : Cond.initialized y.cls ∈ mGW)
    (hy : y.name ≠ "<init>" ∧ (parseMethodDescriptor y.desc).map (fun d => d.parameters.length) = some n) : xSite B own d (3 * idx + 2) (n + 1) T := by
  intro p l e s m args below meth c Q cc nL g hx hb hml hown hts hD hE pc H locs ls M as rest Po hdg hP hS hsz hlen hrest hT kk
  have hts0 := hts
  have hts : ∀ w ∈ mGW, w.before args s = true := fun w h => hts0 w (xIn h)
  rw [mIns_p] at hdg
  obtain ⟨a, rs, rfl, hisa⟩ := hrec g as M Po hT hlen
  have hMet := hM l g H.size (.inr (some a) :: rs) M Po hT
  have hcw : va_CS (mRm d) s args own idx y bytes maxL ret (.code y bytes maxL ret :: W) (mRm d') 0 0 n := by
    have hG := xGoodIn hW hcode
    refine ⟨⟨rfl, rfl, (mRm_call hd hm).1, (mRm_call hd hm).2, pay_in hts0 hG, List.mem_cons_self⟩, hts _ hlink, hts _ hsame, hts _ hsup, hts _ hinst, hts _ hini, hts _ hcode, hy.1, fun sig h => ?_⟩
    have h2 := hy.2
    rw [h] at h2
    exact (Option.some.inj h2).symm
  have hrun := va_runSU (p := p) (l := l) (e := e) (R := mRm d) (s := s) (m := m) (args := args) (below := below) (meth := meth) (c := c) (H := H) (locs := locs) (cells := 0) (slots := 0) (own := own) (C := q.1) (b := g.1 a) (As := rs.map (mval g.1)) (rest := rest.map (mval g.1)) (n := n) (index := idx) (g := F0 m pc ls (((Sum.inr (some a) :: rs).reverse ++ rest).map (mval g.1)))
    (hE.1.1 ci q hq).2 ⟨hx, hb, hml, hown, hts0⟩ hMet hcw
    ⟨xB_blind, xIsA_recv hisa hE hP hS, fun U hU hW => ⟨rfl, xPre hD hE hP hS U hU hW⟩⟩ rfl (by simpa using hlen) hsz (by show List.map (mval g.1) _ = _; rw [mMap_rev]) (mRoomOK hrest) hdg ⟨Nat.zero_le _, Nat.zero_le _⟩
  exact xBack hrun hS kk
/-- System.arraycopy of bytes: from a constant, or within the world -/
def tCopyB (B : List mH) : mG → mT := fun g as M P => match as with
  | [.inr (some a), .inl i, .inr (some b), .inl j, .inl n] => ∃ (L nb : Nat) (f : Nat → Int32), ((∃ l, mRoA a = some l ∧ l.length = L ∧ f = fun k => l.getD k 0) ∨ (∃ ra, (xS B g)[a]? = some (3, L, ra) ∧ f = M a)) ∧ (∃ rb, (xS B g)[b]? = some (3, nb, rb)) ∧ ¬ i < 0 ∧ ¬ j < 0 ∧ ¬ n < 0 ∧ i.toNatClampNeg + n.toNatClampNeg ≤ L ∧ j.toNatClampNeg + n.toNatClampNeg ≤ nb ∧ (∀ k, k < n.toNatClampNeg → fits .byte (.int (f (i.toNatClampNeg + k))) = true) ∧ P none (mUp M b (va_cpy f (M b) i.toNatClampNeg j.toNatClampNeg n.toNatClampNeg))
  | _ => False
theorem tCopyB_mono {B : List mH} : mMn (tCopyB B) := fun g a M P Q h k => by
  unfold tCopyB at k ⊢
  split at k
  · obtain ⟨L, nb, f, h1, h2, h3, h4, h5, h6, h7, h8, h9⟩ := k
    exact ⟨L, nb, f, h1, h2, h3, h4, h5, h6, h7, h8, h _ _ h9⟩
  · exact k
theorem xSite.copyB {B : List mH} {own : String} {d idx : Nat} (hd : 0 < d) (hlink : Cond.methodLink own idx arraycopyName ∈ mGW) (hnat : Cond.native arraycopyName ∈ mGW) (hst : Cond.static arraycopyName ∈ mGW) (hini : Cond.initialized "java/lang/System" ∈ mGW) : xSite B own d (3 * idx + 1) 5 (tCopyB B) := by
  intro p l e s m args below meth c Q cc nL g hx hb hml hown hts0 hD hE pc H locs ls M as rest Po hdg hP hS hsz hlen hrest hT kk
  have hts : ∀ w ∈ mGW, w.before args s = true := fun w h => hts0 w (xIn h)
  rw [mIns_s] at hdg
  have hnw : nativeFrameWords "java/lang/System" "arraycopy" 5 ≤ 20 := by decide +kernel
  have hloc : ((rest.map (mval g.1)).map fun v => v.category).sum + (nativeFrameWords "java/lang/System" "arraycopy" 5 + 11) ≤ (mRm d).locals := by rw [mCats]; show rest.length + _ ≤ 48 * d; omega
  unfold tCopyB at hT
  split at hT
  · rename_i a i b j n
    obtain ⟨L, nb, f, h1, ⟨rb, h2⟩, h3, h4, h5, h6, h7, h8, h9⟩ := hT
    have e2 := mWs_get (ad := g.1) (cy := g.2.2.1) (M := M) h2
    rcases h1 with ⟨l1, h1, rfl, rfl⟩ | ⟨ra, h1, rfl⟩
    · exact vk_copyt hx hb (hml.trans hsz.symm) hown (hts _ hlink) (hts _ hnat) (hts _ hst) (hts _ hini) hE.1 hP (mWs_D hD M) hS (hE.2.2.2.1.arr h1) b 3 e2 rfl h3 h4 h5 h6 h7 h8 (show 1 ≤ (mRm d).frames from hd) hloc hdg (fun H1 locs1 hP1 _ hS1 => kk none _ H1 locs1 (by rw [← mWs_set h2]; exact hP1) hS1 h9)
    · have e1 := mWs_get (ad := g.1) (cy := g.2.2.1) (M := M) h1
      exact va_copyi hx hb (hml.trans hsz.symm) hown (hts _ hlink) (hts _ hnat) (hts _ hst) (hts _ hini) hE.1 hP (mWs_D hD M) hS a b 3 3 e1 e2 rfl rfl rfl h3 h4 h5 h6 h7 h8 (show 1 ≤ (mRm d).frames from hd) hloc hdg (fun H1 locs1 hP1 _ hS1 => kk none _ H1 locs1 (by rw [← mWs_set h2]; exact hP1) hS1 h9)
  · exact hT.elim
/-! specifications by relations, over the world's shape -/
def mGi {α : Type} (Pre : α → mG → List mV → mM → Prop) (Post : α → List mV → mM → Int32 → mM → Prop) : mG → mT := fun g as M P => ∃ x : α, Pre x g as M ∧ ∀ (v : Int32) (M' : mM), Post x as M v M' → P (some (.inl v)) M'
def mGv {α : Type} (Pre : α → mG → List mV → mM → Prop) (Post : α → List mV → mM → mM → Prop) : mG → mT := fun g as M P => ∃ x : α, Pre x g as M ∧ ∀ M' : mM, Post x as M M' → P none M'
/-- the answer is the receiver -/
def mGa {α : Type} (Pre : α → mG → List mV → mM → Prop) (Post : α → List mV → mM → mM → Prop) : mG → mT := fun g as M P => ∃ x : α, Pre x g as M ∧ ∀ M' : mM, Post x as M M' → P (some (as.headD (.inl 0))) M'
theorem mGi_mono {α : Type} {Pre : α → mG → List mV → mM → Prop} {Post : α → List mV → mM → Int32 → mM → Prop} : mMn (mGi Pre Post) := fun _ _ _ _ _ h k => by
  obtain ⟨x, h1, h2⟩ := k
  exact ⟨x, h1, fun v M' z => h _ _ (h2 v M' z)⟩
theorem mGv_mono {α : Type} {Pre : α → mG → List mV → mM → Prop} {Post : α → List mV → mM → mM → Prop} : mMn (mGv Pre Post) := fun _ _ _ _ _ h k => by
  obtain ⟨x, h1, h2⟩ := k
  exact ⟨x, h1, fun M' z => h _ _ (h2 M' z)⟩
theorem mGa_mono {α : Type} {Pre : α → mG → List mV → mM → Prop} {Post : α → List mV → mM → mM → Prop} : mMn (mGa Pre Post) := fun _ _ _ _ _ h k => by
  obtain ⟨x, h1, h2⟩ := k
  exact ⟨x, h1, fun M' z => h _ _ (h2 M' z)⟩
