/-- cell a is an object of class C, in the world or among the constants -/
def mIsA (SH : List mH) (C : String) (a : Nat) : Prop := (∃ (ci sz : Nat) (rs : List (Option Nat)) (q : vw_C), SH[a]? = some (ci + 5, sz, rs) ∧ vwCl[ci]? = some q ∧ q.1 = C) ∨ (C = "java/lang/String" ∧ mRoS a = true)
def mHasR (y : MethodName) (n : Nat) (T : mG → mT) : Prop := ∀ (g : mG) (as : List mV) (M : mM) (P : mP), T g as M P → as.length = n + 1 → ∃ (a : Nat) (rs : List mV), as = .inr (some a) :: rs ∧ mIsA (mSx g) y.cls a
theorem mIsA.recv {s : State} {H : Heap} {locs : List Loc} {g : mG} {M : mM} {C : String} {a : Nat} (h : mIsA (mSx g) C a) (hE : mEnv g (mA g s.heap.size) s s.heap) (hP : va_P g.2.1 vwCl (mWs g.1 g.2.2.1 (mSx g) M) H) (hS : va_S (mA g s.heap.size) s.heap H locs) : ∃ cell : Cell, H[g.1 a]? = some cell ∧ cell.vm.isStatics = false ∧ s.vm.findClass C = some cell.cls := by
  rcases h with ⟨ci, sz, rs, q, h1, h2, rfl⟩ | ⟨rfl, h⟩
  · exact va_recv hE.1 hP h2 (mWs_get (M := M) h1)
  · have hq : 1000 ≤ a ∧ a < 1017 := by simpa [mRoS] using h
    obtain ⟨hs0, -⟩ := hE.2.2.2.1.1 (a - 1000) (by omega)
    rw [show 1000 + (a - 1000) = a by omega] at hs0
    obtain ⟨cell, h1, h2, h3, -⟩ := hs0.kept hS.2.1
    exact ⟨cell, h1, h2, h3⟩
theorem mMap_rev {ad : Nat → Nat} {a : Nat} {rs rest : List mV} : (((Sum.inr (some a) :: rs).reverse ++ rest).map (mval ad)) = (rs.map (mval ad)).reverse ++ .ref (ad a) :: rest.map (mval ad) := by
  simp [mval, va_rf]
theorem mMap_rev0 {ad : Nat → Nat} {rs rest : List mV} : ((rs.reverse ++ rest).map (mval ad)) = (rs.map (mval ad)).reverse ++ rest.map (mval ad) := by
  simp
theorem mCats {ad : Nat → Nat} : ∀ (rest : List mV), ((rest.map (mval ad)).map fun v => v.category).sum = rest.length
  | [] => rfl
  | v :: t => by
    rw [List.map_cons, List.map_cons, List.sum_cons, mCats t, mval_cat]
    simp
    omega
theorem mRoomOK {pc : Nat} {ls : Array Slot} {m : MethodId} {st : List Value} {ad : Nat → Nat} {rest : List mV} (h : rest.length ≤ 8) : 2 * (F0 m pc ls st).monitorRoom + ((rest.map (mval ad)).map fun v => v.category).sum ≤ 8 := by
  rw [mCats]
  show 2 * 0 + _ ≤ 8
  omega
theorem mSite.V {own : String} {d d' n idx : Nat} {y : MethodName} {bytes : ByteArray} {maxL : Nat} {ret : Option FieldType} {T : mG → mT} (hM : mOK y bytes maxL ret d' T) (hd : d' < d) (hm : maxL ≤ 29) (hrec : mHasR y n T)
    (hcode : Cond.code y bytes maxL ret ∈ mGW) (hlink : Cond.methodLink own idx y ∈ mGW) (hinst : Cond.instanceMethod y ∈ mGW) (hsel : Cond.selects y.cls y y ∈ mGW) (hini : Cond.initialized y.cls ∈ mGW)
    (hy : y.cls ≠ "java/lang/invoke/MethodHandle" ∧ y.cls ≠ "java/lang/invoke/VarHandle" ∧ (parseMethodDescriptor y.desc).map (fun d => d.parameters.length) = some n) : mSite own d (3 * idx) (n + 1) T := by
  intro p l e s m args below meth c Q cc nL g hx hb hml hown hts hD hE pc H locs ls M as rest Po hdg hP hS hsz hlen hrest hT kk
  rw [mIns_v] at hdg
  obtain ⟨a, rs, rfl, hisa⟩ := hrec g as M Po hT hlen
  have hMet := hM l g H.size (.inr (some a) :: rs) M Po hT
  have hrun := va_runV (p := p) (l := l) (e := e) (R := mRm d) (s := s) (m := m) (args := args) (below := below) (meth := meth) (c := c) (H := H) (locs := locs) (cells := 0) (slots := 0) (own := own) (C := y.cls) (b := g.1 a) (As := rs.map (mval g.1)) (rest := rest.map (mval g.1)) (n := n) (index := idx) (g := F0 m pc ls (((Sum.inr (some a) :: rs).reverse ++ rest).map (mval g.1)))
    ⟨hx, hb, hml, hown, hts⟩ hMet
    ⟨callB_of n hts (mGoodIn hcode) rfl rfl rfl (hts _ hini) (hts _ hlink) hy (mRm_call hd hm), hts _ hinst, hts _ hsel⟩
    ⟨mB_blind, hisa.recv hE hP hS, fun U hU hW => ⟨rfl, mPre hD hE hP hS U hU hW⟩⟩ rfl (by simpa using hlen) hsz (by show List.map (mval g.1) _ = _; rw [mMap_rev]) (mRoomOK hrest) hdg ⟨Nat.zero_le _, Nat.zero_le _⟩
  exact mBack hrun hS kk
theorem mSite.VN {own host : String} {d d' n idx : Nat} {y : MethodName} {bytes : ByteArray} {maxL : Nat} {ret : Option FieldType} {T : mG → mT} (hM : mOK y bytes maxL ret d' T) (hd : d' < d) (hm : maxL ≤ 29) (hrec : mHasR y n T)
    (hcode : Cond.code y bytes maxL ret ∈ mGW) (hlink : Cond.methodLinkNest own idx y host ∈ lw_tbl) (hinst : Cond.instanceMethod y ∈ mGW) (hsel : Cond.selects y.cls y y ∈ mGW) (hini : Cond.initialized y.cls ∈ mGW)
    (hy : y.cls ≠ "java/lang/invoke/MethodHandle" ∧ y.cls ≠ "java/lang/invoke/VarHandle" ∧ (parseMethodDescriptor y.desc).map (fun d => d.parameters.length) = some n) : mSite own d (3 * idx) (n + 1) T := by
  intro p l e s m args below meth c Q cc nL g hx hb hml hown hts hD hE pc H locs ls M as rest Po hdg hP hS hsz hlen hrest hT kk
  rw [mIns_v] at hdg
  obtain ⟨a, rs, rfl, hisa⟩ := hrec g as M Po hT hlen
  have hMet := hM l g H.size (.inr (some a) :: rs) M Po hT
  have hrun := va_runVN (p := p) (l := l) (e := e) (R := mRm d) (s := s) (m := m) (args := args) (below := below) (meth := meth) (c := c) (H := H) (locs := locs) (cells := 0) (slots := 0) (own := own) (C := y.cls) (host := host) (b := g.1 a) (As := rs.map (mval g.1)) (rest := rest.map (mval g.1)) (n := n) (index := idx) (g := F0 m pc ls (((Sum.inr (some a) :: rs).reverse ++ rest).map (mval g.1)))
    ⟨hx, hb, hml, hown, hts⟩ hMet
    ⟨va_cnB n hts (mGoodIn hcode) rfl rfl rfl (hE.2.1 _ hlink rfl) (hts _ hini) hy (mRm_call hd hm), hts _ hinst, hts _ hsel⟩
    ⟨mB_blind, hisa.recv hE hP hS, fun U hU hW => ⟨rfl, mPre hD hE hP hS U hU hW⟩⟩ rfl (by simpa using hlen) hsz (by show List.map (mval g.1) _ = _; rw [mMap_rev]) (mRoomOK hrest) hdg ⟨Nat.zero_le _, Nat.zero_le _⟩
  exact mBack hrun hS kk
theorem mSite.S {own : String} {d d' n idx : Nat} {y : MethodName} {bytes : ByteArray} {maxL : Nat} {ret : Option FieldType} {T : mG → mT} (hM : mOK y bytes maxL ret d' T) (hd : d' < d) (hm : maxL ≤ 29)
    (hcode : Cond.code y bytes maxL ret ∈ mGW) (hlink : Cond.methodLink own idx y ∈ mGW) (hst : Cond.static y ∈ mGW) (hini : Cond.initialized y.cls ∈ mGW)
    (hy : y.cls ≠ "java/lang/invoke/MethodHandle" ∧ y.cls ≠ "java/lang/invoke/VarHandle" ∧ (parseMethodDescriptor y.desc).map (fun d => d.parameters.length) = some n) : mSite own d (3 * idx + 1) n T := by
  intro p l e s m args below meth c Q cc nL g hx hb hml hown hts hD hE pc H locs ls M as rest Po hdg hP hS hsz hlen hrest hT kk
  rw [mIns_s] at hdg
  have hMet := hM l g H.size as M Po hT
  have hrun := va_runS (p := p) (l := l) (e := e) (R := mRm d) (s := s) (m := m) (args := args) (below := below) (meth := meth) (c := c) (H := H) (locs := locs) (cells := 0) (slots := 0) (own := own) (As := as.map (mval g.1)) (rest := rest.map (mval g.1)) (n := n) (index := idx) (g := F0 m pc ls ((as.reverse ++ rest).map (mval g.1)))
    ⟨hx, hb, hml, hown, hts⟩ hMet
    ⟨callB_of n hts (mGoodIn hcode) rfl rfl rfl (hts _ hini) (hts _ hlink) hy (mRm_call hd hm), hts _ hst⟩
    ⟨mB_blind, fun U hU hW => ⟨rfl, mPre hD hE hP hS U hU hW⟩⟩ rfl (by simpa using hlen) hsz (by show List.map (mval g.1) _ = _; rw [mMap_rev0]) (mRoomOK hrest) hdg ⟨Nat.zero_le _, Nat.zero_le _⟩
  exact mBack hrun hS kk
theorem mSite.SN {own host : String} {d d' n idx : Nat} {y : MethodName} {bytes : ByteArray} {maxL : Nat} {ret : Option FieldType} {T : mG → mT} (hM : mOK y bytes maxL ret d' T) (hd : d' < d) (hm : maxL ≤ 29)
    (hcode : Cond.code y bytes maxL ret ∈ mGW) (hlink : Cond.methodLinkNest own idx y host ∈ lw_tbl) (hst : Cond.static y ∈ mGW) (hini : Cond.initialized y.cls ∈ mGW)
    (hy : y.cls ≠ "java/lang/invoke/MethodHandle" ∧ y.cls ≠ "java/lang/invoke/VarHandle" ∧ (parseMethodDescriptor y.desc).map (fun d => d.parameters.length) = some n) : mSite own d (3 * idx + 1) n T := by
  intro p l e s m args below meth c Q cc nL g hx hb hml hown hts hD hE pc H locs ls M as rest Po hdg hP hS hsz hlen hrest hT kk
  rw [mIns_s] at hdg
  have hMet := hM l g H.size as M Po hT
  have hrun := va_runSN (p := p) (l := l) (e := e) (R := mRm d) (s := s) (m := m) (args := args) (below := below) (meth := meth) (c := c) (H := H) (locs := locs) (cells := 0) (slots := 0) (own := own) (host := host) (As := as.map (mval g.1)) (rest := rest.map (mval g.1)) (n := n) (index := idx) (g := F0 m pc ls ((as.reverse ++ rest).map (mval g.1)))
    ⟨hx, hb, hml, hown, hts⟩ hMet
    ⟨va_cnB n hts (mGoodIn hcode) rfl rfl rfl (hE.2.1 _ hlink rfl) (hts _ hini) hy (mRm_call hd hm), hts _ hst, trivial⟩
    ⟨mB_blind, fun U hU hW => ⟨rfl, mPre hD hE hP hS U hU hW⟩⟩ rfl (by simpa using hlen) hsz (by show List.map (mval g.1) _ = _; rw [mMap_rev0]) (mRoomOK hrest) hdg ⟨Nat.zero_le _, Nat.zero_le _⟩
  exact mBack hrun hS kk
def tMax : mG → mT := fun _ as M P => match as with
  | [.inl x, .inl y] => P (some (.inl (if x < y then y else x))) M
  | _ => False
def tMin : mG → mT := fun _ as M P => match as with
  | [.inl x, .inl y] => P (some (.inl (if y < x then y else x))) M
  | _ => False
theorem mSite.max {own : String} {d idx : Nat} (hd : 0 < d) (hcode : Cond.code Lib.Math.max.name Lib.Math.max.code 2 (some .int) ∈ mGW) (hlink : Cond.methodLink own idx Lib.Math.max.name ∈ mGW) (hst : Cond.static Lib.Math.max.name ∈ mGW) (hini : Cond.initialized "java/lang/Math" ∈ mGW) : mSite own d (3 * idx + 1) 2 tMax := by
  intro p l e s m args below meth c Q cc nL g hx hb hml hown hts hD hE pc H locs ls M as rest Po hdg hP hS hsz hlen hrest hT kk
  rw [mIns_s] at hdg
  have hloc : ((rest.map (mval g.1)).map fun v => v.category).sum + 13 ≤ (mRm d).locals := by rw [mCats]; show rest.length + 13 ≤ 48 * d; omega
  unfold tMax at hT
  split at hT
  · rename_i x y
    exact va_mmax hx hb (hml.trans hsz.symm) hown (hts _ hlink) (hts _ hst) (hts _ hini) (hts _ hcode) (show 1 ≤ (mRm d).frames from hd) hloc (Nat.zero_le _) (Nat.zero_le _) hdg (kk _ M H locs hP hS hT)
  · exact hT.elim
theorem mSite.min {own : String} {d idx : Nat} (hd : 0 < d) (hcode : Cond.code Lib.Math.min.name Lib.Math.min.code 2 (some .int) ∈ mGW) (hlink : Cond.methodLink own idx Lib.Math.min.name ∈ mGW) (hst : Cond.static Lib.Math.min.name ∈ mGW) (hini : Cond.initialized "java/lang/Math" ∈ mGW) : mSite own d (3 * idx + 1) 2 tMin := by
  intro p l e s m args below meth c Q cc nL g hx hb hml hown hts hD hE pc H locs ls M as rest Po hdg hP hS hsz hlen hrest hT kk
  rw [mIns_s] at hdg
  have hloc : ((rest.map (mval g.1)).map fun v => v.category).sum + 13 ≤ (mRm d).locals := by rw [mCats]; show rest.length + 13 ≤ 48 * d; omega
  unfold tMin at hT
  split at hT
  · rename_i x y
    exact va_mmin hx hb (hml.trans hsz.symm) hown (hts _ hlink) (hts _ hst) (hts _ hini) (hts _ hcode) (show 1 ≤ (mRm d).frames from hd) hloc (Nat.zero_le _) (Nat.zero_le _) hdg (kk _ M H locs hP hS hT)
  · exact hT.elim
/-- System.arraycopy between two int arrays -/
def tCopy : mG → mT := fun g as M P => match as with
  | [.inr (some a), .inl i, .inr (some b), .inl j, .inl n] => ∃ na nb : Nat, (∃ ra, (mSx g)[a]? = some (0, na, ra)) ∧ (∃ rb, (mSx g)[b]? = some (0, nb, rb)) ∧ ¬ i < 0 ∧ ¬ j < 0 ∧ ¬ n < 0 ∧ i.toNatClampNeg + n.toNatClampNeg ≤ na ∧ j.toNatClampNeg + n.toNatClampNeg ≤ nb ∧ P none (mUp M b (va_cpy (M a) (M b) i.toNatClampNeg j.toNatClampNeg n.toNatClampNeg))
  | _ => False
theorem mSite.copy {own : String} {d idx : Nat} (hd : 0 < d) (hlink : Cond.methodLink own idx arraycopyName ∈ mGW) (hnat : Cond.native arraycopyName ∈ mGW) (hst : Cond.static arraycopyName ∈ mGW) (hini : Cond.initialized "java/lang/System" ∈ mGW) : mSite own d (3 * idx + 1) 5 tCopy := by
  intro p l e s m args below meth c Q cc nL g hx hb hml hown hts hD hE pc H locs ls M as rest Po hdg hP hS hsz hlen hrest hT kk
  rw [mIns_s] at hdg
  have hnw : nativeFrameWords "java/lang/System" "arraycopy" 5 ≤ 20 := by decide +kernel
  have hloc : ((rest.map (mval g.1)).map fun v => v.category).sum + (nativeFrameWords "java/lang/System" "arraycopy" 5 + 11) ≤ (mRm d).locals := by rw [mCats]; show rest.length + _ ≤ 48 * d; omega
  unfold tCopy at hT
  split at hT
  · rename_i a i b j n
    obtain ⟨na, nb, ⟨ra, h1⟩, ⟨rb, h2⟩, h3, h4, h5, h6, h7, h8⟩ := hT
    have e1 := mWs_get (ad := g.1) (cy := g.2.2.1) (M := M) h1
    have e2 := mWs_get (ad := g.1) (cy := g.2.2.1) (M := M) h2
    exact va_copyi hx hb (hml.trans hsz.symm) hown (hts _ hlink) (hts _ hnat) (hts _ hst) (hts _ hini) hE.1 hP (mWs_D hD M) hS a b 0 0 e1 e2 rfl rfl rfl h3 h4 h5 h6 h7 (fun _ _ => rfl) (show 1 ≤ (mRm d).frames from hd) hloc hdg (fun H1 locs1 hP1 _ hS1 => kk none _ H1 locs1 (by rw [← mWs_set h2]; exact hP1) hS1 h8)
  · exact hT.elim
