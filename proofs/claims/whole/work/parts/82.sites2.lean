/-! ===== CALLS OF INHERITED METHODS, AND OF super ===== -/
/-- the receiver is an object of class C -/
def mHasC (C : String) (n : Nat) (T : mG → mT) : Prop := ∀ (g : mG) (as : List mV) (M : mM) (P : mP), T g as M P → as.length = n + 1 → ∃ (a : Nat) (rs : List mV), as = .inr (some a) :: rs ∧ mIsA (mSx g) C a
/-- a private method is what a call selects, whatever the class of the receiver -/
theorem mSelP {C : String} {y : MethodName} {s : State} {args : Array Value} {c : ClassId} (hC : s.vm.findClass C = some c) (hsame : (Cond.sameMethod y.cls y.cls y.name y.desc).before args s = true) (hpriv : (Cond.privateMethod y).before args s = true) (hinst : (Cond.instanceMethod y).before args s = true) :
    (Cond.selects C y y).before args s = true := by
  obtain ⟨cn, ck, r1, hcn, hck, hni, hf, hn1⟩ := Cond.sameMethod_found hsame
  obtain ⟨mk, methM, hnamed, hmethM, -, -⟩ := Cond.instanceMethod_spec hinst
  cases hn1.symm.trans hnamed
  have hcls : r1.cls = cn := Option.some.inj ((findClass_of_methodNamed hnamed).symm.trans hcn)
  have hsel : selectMethod {} s.vm c r1 = .method r1 := selectMethod_private hmethM (Cond.privateMethod_at hpriv r1 methM hnamed hmethM)
  simp only [Cond.before, Cond.holds, Cond.value, hC, hf, hnamed, hsel, hcls, hck]
  simp; exact hni
theorem mSite.U {own C : String} {d d' n idx : Nat} {y : MethodName} {bytes : ByteArray} {maxL : Nat} {ret : Option FieldType} {T : mG → mT} (hM : mOK y bytes maxL ret d' T) (hd : d' < d) (hm : maxL ≤ 29) (hrec : mHasC C n T)
    (hcode : Cond.code y bytes maxL ret ∈ mGW) (hlink : Cond.methodLink own idx y ∈ mGW) (hsame : Cond.sameMethod y.cls y.cls y.name y.desc ∈ mGW) (hinst : Cond.instanceMethod y ∈ mGW) (hsel : Cond.selects C y y ∈ mGW ∨ Cond.privateMethod y ∈ mGW) (hini : Cond.initialized y.cls ∈ mGW)
    (hy : y.cls ≠ "java/lang/invoke/MethodHandle" ∧ y.cls ≠ "java/lang/invoke/VarHandle" ∧ (parseMethodDescriptor y.desc).map (fun d => d.parameters.length) = some n) : mSite own d (3 * idx) (n + 1) T := by
  intro p l e s m args below meth c Q cc nL g hx hb hml hown hts hD hE pc H locs ls M as rest Po hdg hP hS hsz hlen hrest hT kk
  rw [mIns_v] at hdg
  obtain ⟨a, rs, rfl, hisa⟩ := hrec g as M Po hT hlen
  have hMet := hM l g H.size (.inr (some a) :: rs) M Po hT
  have hrc := hisa.recv hE hP hS
  obtain ⟨cell, hc1, hc2, hc3⟩ := hrc
  have hs : (Cond.selects C y y).before args s = true := by
    rcases hsel with h | h
    · exact hts _ h
    · exact mSelP hc3 (hts _ hsame) (hts _ h) (hts _ hinst)
  have hcw : va_CU (mRm d) s args own C y.cls idx y y bytes maxL ret (mWd y bytes maxL ret) (mRm d') 0 0 n := by
    have hG := mGoodIn hcode
    refine ⟨⟨rfl, rfl, (mRm_call hd hm).1, (mRm_call hd hm).2, pay_in hts hG, List.mem_cons_self⟩, hts _ hcode, hts _ hini, ⟨hy.1, hy.2.1⟩, fun sig h => ?_, hts _ hlink, hts _ hsame, va_Decl.of (hts _ hinst) (hts _ hcode), hs, hts _ hinst⟩
    have h2 := hy.2.2
    rw [h] at h2
    exact (Option.some.inj h2).symm
  have hrun := va_runU (p := p) (l := l) (e := e) (R := mRm d) (s := s) (m := m) (args := args) (below := below) (meth := meth) (c := c) (H := H) (locs := locs) (cells := 0) (slots := 0) (own := own) (C := C) (owner := y.cls) (x := y) (b := g.1 a) (As := rs.map (mval g.1)) (rest := rest.map (mval g.1)) (n := n) (index := idx) (g := F0 m pc ls (((Sum.inr (some a) :: rs).reverse ++ rest).map (mval g.1)))
    ⟨hx, hb, hml, hown, hts⟩ hMet hcw
    ⟨mB_blind, ⟨cell, hc1, hc2, hc3⟩, fun U hU hW => ⟨rfl, mPre hD hE hP hS U hU hW⟩⟩ rfl (by simpa using hlen) hsz (by show List.map (mval g.1) _ = _; rw [mMap_rev]) (mRoomOK hrest) hdg ⟨Nat.zero_le _, Nat.zero_le _⟩
  exact mBack hrun hS kk
theorem mSite.SU {own : String} {d d' n idx ci : Nat} {q : vw_C} {y : MethodName} {bytes : ByteArray} {maxL : Nat} {ret : Option FieldType} {T : mG → mT} (hM : mOK y bytes maxL ret d' T) (hd : d' < d) (hm : maxL ≤ 29) (hrec : mHasC q.1 n T) (hq : vwCl[ci]? = some q)
    (hcode : Cond.code y bytes maxL ret ∈ mGW) (hlink : Cond.methodLink own idx y ∈ mGW) (hsame : Cond.sameMethod y.cls y.cls y.name y.desc ∈ mGW) (hsup : Cond.superclass own y.cls ∈ mGW) (hinst : Cond.instanceMethod y ∈ mGW) (hini : Cond.initialized y.cls ∈ mGW)
    (hy : y.name ≠ "<init>" ∧ (parseMethodDescriptor y.desc).map (fun d => d.parameters.length) = some n) : mSite own d (3 * idx + 2) (n + 1) T := by
  intro p l e s m args below meth c Q cc nL g hx hb hml hown hts hD hE pc H locs ls M as rest Po hdg hP hS hsz hlen hrest hT kk
  rw [mIns_p] at hdg
  obtain ⟨a, rs, rfl, hisa⟩ := hrec g as M Po hT hlen
  have hMet := hM l g H.size (.inr (some a) :: rs) M Po hT
  have hcw : va_CS (mRm d) s args own idx y bytes maxL ret (mWd y bytes maxL ret) (mRm d') 0 0 n := by
    have hG := mGoodIn hcode
    refine ⟨⟨rfl, rfl, (mRm_call hd hm).1, (mRm_call hd hm).2, pay_in hts hG, List.mem_cons_self⟩, hts _ hlink, hts _ hsame, hts _ hsup, hts _ hinst, hts _ hini, hts _ hcode, hy.1, fun sig h => ?_⟩
    have h2 := hy.2
    rw [h] at h2
    exact (Option.some.inj h2).symm
  have hrun := va_runSU (p := p) (l := l) (e := e) (R := mRm d) (s := s) (m := m) (args := args) (below := below) (meth := meth) (c := c) (H := H) (locs := locs) (cells := 0) (slots := 0) (own := own) (C := q.1) (b := g.1 a) (As := rs.map (mval g.1)) (rest := rest.map (mval g.1)) (n := n) (index := idx) (g := F0 m pc ls (((Sum.inr (some a) :: rs).reverse ++ rest).map (mval g.1)))
    (hE.1.1 ci q hq).2 ⟨hx, hb, hml, hown, hts⟩ hMet hcw
    ⟨mB_blind, hisa.recv hE hP hS, fun U hU hW => ⟨rfl, mPre hD hE hP hS U hU hW⟩⟩ rfl (by simpa using hlen) hsz (by show List.map (mval g.1) _ = _; rw [mMap_rev]) (mRoomOK hrest) hdg ⟨Nat.zero_le _, Nat.zero_le _⟩
  exact mBack hrun hS kk
