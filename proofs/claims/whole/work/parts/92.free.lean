/-! ===== CONTRACTS OVER ANY CELLS, THAT MAY MAKE CELLS ===== -/
def vPre (g : mG) (ws0 : va_W) (sz : Nat) (U : State) : Prop := U.heap.size = sz ∧ va_P g.2.1 vwCl ws0 U.heap ∧ va_D (fun _ => True) ws0 ∧ iE g (va_A ws0 sz) U U.heap
def vPost (g : mG) (ws0 : va_W) (sz : Nat) (Post : Option Value → va_W → Prop) (st : State) (oc : Outcome) (t : State) : Prop := (∃ (v : Option Value) (ws1 : va_W), oc = .returned v ∧ Post v ws1 ∧ va_P g.2.1 vwCl ws1 t.heap ∧ va_D (va_A ws0 sz) ws1) ∧ va_F (va_A ws0 sz) st t
def vOK (Wd : List Cond) (y : MethodName) (bytes : ByteArray) (maxL : Nat) (ret : Option FieldType) (rm : Room) (mc ms : Nat) (g : mG) (av : List Value) (ws0 : va_W) (Post : Option Value → va_W → Prop) : Prop :=
  ∀ (l : Launch) (sz : Nat), Met l y (.code y bytes maxL ret :: Wd) rm (va_Pc av (vPre g ws0 sz)) (fun _ st oc t => vPost g ws0 sz Post st oc t) mc ms (va_A ws0 sz)
theorem vMet_sub {l : Launch} {y : MethodName} {ws : List Cond} {rm : Room} {Pc Pc' : Array Value → State → Prop} {Qc Qc' : Array Value → State → Outcome → State → Prop} {mc ms : Nat} {free free' : Addr → Prop} (h : Met l y ws rm Pc Qc mc ms free) (hP : ∀ a s, Pc' a s → Pc a s) (hQ : ∀ a s o t, Pc' a s → Qc a s o t → Qc' a s o t) (hf : ∀ q, free q → free' q) : Met l y ws rm Pc' Qc' mc ms free' := by
  refine MetFree.mono h hP (fun _ _ _ _ _ k => k) (fun a s o t hp k => ?_)
  obtain ⟨hq, L, hF, hL⟩ := k
  exact ⟨hQ _ _ _ _ hp hq, L, hF, fun q hq => hf _ (hL q hq)⟩
theorem vBlind {g : mG} {ws0 : va_W} {sz : Nat} {av : List Value} : FrameBlind (va_Pc av (vPre g ws0 sz)) := by
  intro a U gf mk h
  obtain ⟨h1, h2, h3, h4, h5, h6, h7⟩ := h
  exact ⟨h1, h2, h3, h4, mEnv.same (u := U) (U := U.calling gf mk a) rfl h5, h6, h7⟩
/-- out of a contract of the small machine -/
theorem vOK.x {Wd : List Cond} {B : List mH} {y : MethodName} {bytes : ByteArray} {maxL : Nat} {ret : Option FieldType} {rm : Room} {mc ms : Nat} {T : mG → mT} (h : xOKr Wd B y bytes maxL ret rm mc ms T) {g : mG} {a2 : Nat → Nat} {o2 : Option Nat} {ex : List mH}
    (hE : ∀ (A : Nat → Prop) (U : State) (H : Heap), mEnv g A U H → mEnv (a2, g.2.1, g.2.2.1, o2, ex) A U H) {as : List mV} {M : mM} {P : mP} (hT : T (a2, g.2.1, g.2.2.1, o2, ex) as M P) :
    vOK Wd y bytes maxL ret rm mc ms g (as.map (mval a2)) (mWs a2 g.2.2.1 (B ++ ex) M) (fun v ws1 => ∃ (r : Option mV) (M' : mM), v = r.map (mval a2) ∧ P r M' ∧ ws1 = mWs a2 g.2.2.1 (B ++ ex) M') := by
  intro l sz
  have hA : ∀ q, xA B (a2, g.2.1, g.2.2.1, o2, ex) sz q → va_A (mWs a2 g.2.2.1 (B ++ ex) M) sz q := fun q hq => by
    rcases hq with ⟨k, hk, rfl⟩ | hq
    · exact Or.inl ⟨k, _, mWs_gd hk⟩
    · exact Or.inr hq
  have hA2 : ∀ q, va_A (mWs a2 g.2.2.1 (B ++ ex) M) sz q → xA B (a2, g.2.1, g.2.2.1, o2, ex) sz q := fun q hq => by
    rcases hq with ⟨k, e, hk⟩ | hq
    · exact Or.inl ⟨k, (mWs_at hk).1, (mWs_at hk).2.symm⟩
    · exact Or.inr hq
  refine vMet_sub (h l (a2, g.2.1, g.2.2.1, o2, ex) sz as M P hT) (fun a s k => ?_) (fun a s o t k k2 => ?_) hA
  · obtain ⟨h1, h2, h3, h4, h5, -⟩ := k
    exact ⟨h1, h2, h3, h4, (hE _ _ _ h5).narrow hA⟩
  · obtain ⟨-, -, -, hD, -⟩ := k
    obtain ⟨⟨r, M', e1, e2, e3⟩, e4, e5⟩ := k2
    exact ⟨⟨_, _, e1, ⟨r, M', rfl, e2, rfl⟩, e3, va_D_M (M := M) ⟨hD.1, fun k q hk => va_A.in hk⟩⟩, e4, fun q h1 h2 => e5 q h1 (fun z => h2 (hA q z))⟩
/-! joining and parting of worlds -/
def dj (X Y : va_W) : Prop := ∀ (i j : Nat) (p q : Nat × va_E), X[i]? = some p → Y[j]? = some q → p.1 ≠ q.1
theorem dj.symm {X Y : va_W} (h : dj X Y) : dj Y X := fun i j p q hi hj e => h j i q p hj hi e.symm
theorem dj.appR {X Y Z : va_W} (h1 : dj X Y) (h2 : dj X Z) : dj X (Y ++ Z) := fun i j p q hi hj => by
  by_cases e : j < Y.length
  · exact h1 i j p q hi (by rw [← List.getElem?_append_left e]; exact hj)
  · exact h2 i (j - Y.length) p q hi (by rw [← List.getElem?_append_right (by omega)]; exact hj)
theorem dj.appL {X Y Z : va_W} (h1 : dj X Z) (h2 : dj Y Z) : dj (X ++ Y) Z := (dj.appR h1.symm h2.symm).symm
theorem app_l {X Y : va_W} {k : Nat} {q : Nat × va_E} (h : X[k]? = some q) : (X ++ Y)[k]? = some q := by
  rw [List.getElem?_append_left (List.getElem?_eq_some_iff.mp h).1]
  exact h
theorem app_r {X Y : va_W} {k : Nat} {q : Nat × va_E} (h : Y[k]? = some q) : (X ++ Y)[X.length + k]? = some q := by
  rw [List.getElem?_append_right (Nat.le_add_right _ _), Nat.add_sub_cancel_left]
  exact h
section PARTS
variable {g : mG} {A : Nat → Prop} {s : State} {X Y Z V : va_W} {H : Heap} {locs : List Loc}
theorem iSt.split (h : iSt g A s (X ++ Y) H locs) : iSt g A s X H locs ∧ iSt g A s Y H locs ∧ dj X Y := by
  obtain ⟨hP, hD, hS⟩ := h
  refine ⟨⟨fun k q hk => hP k q (app_l hk), ⟨fun i j p q hi hj e => hD.1 i j p q (app_l hi) (app_l hj) e, fun k q hk => hD.2 k q (app_l hk)⟩, hS⟩, ⟨fun k q hk => hP _ q (app_r hk), ⟨fun i j p q hi hj e => ?_, fun k q hk => hD.2 _ q (app_r hk)⟩, hS⟩, fun i j p q hi hj e => ?_⟩
  · have := hD.1 _ _ p q (app_r hi) (app_r hj) e
    omega
  · have := hD.1 _ _ p q (app_l hi) (app_r hj) e
    have := (List.getElem?_eq_some_iff.mp hi).1
    omega
theorem iSt.join (h1 : iSt g A s X H locs) (h2 : iSt g A s Y H locs) (h : dj X Y) : iSt g A s (X ++ Y) H locs := ⟨va_P.app h1.1 h2.1, va_D.app h1.2.1 h2.2.1 h, h1.2.2⟩
theorem iSt.r (h : iSt g A s (X ++ Y) H locs) : iSt g A s Y H locs := h.split.2.1
theorem iSt.l (h : iSt g A s (X ++ Y) H locs) : iSt g A s X H locs := h.split.1
/-- the middle is dropped -/
theorem iSt.mid (h : iSt g A s (X ++ (Y ++ Z)) H locs) : iSt g A s (X ++ Z) H locs := by
  obtain ⟨h1, h2, h3⟩ := h.split
  obtain ⟨h4, h5, h6⟩ := h2.split
  exact h1.join h5 (fun i j p q hi hj => h3 i _ p q hi (app_r hj))
/-- the two behind change places -/
theorem iSt.swap (h : iSt g A s (X ++ (Y ++ Z)) H locs) : iSt g A s (X ++ (Z ++ Y)) H locs := by
  obtain ⟨h1, h2, h3⟩ := h.split
  obtain ⟨h4, h5, h6⟩ := h2.split
  exact h1.join (h5.join h4 h6.symm) (dj.appR (fun i j p q hi hj => h3 i _ p q hi (app_r hj)) (fun i j p q hi hj => h3 i _ p q hi (app_l hj)))
theorem iSt.swap0 (h : iSt g A s (Y ++ Z) H locs) : iSt g A s (Z ++ Y) H locs := iSt.swap (X := []) h
end PARTS
section VCALL
variable {p : Program} {l : Launch} {e : Env} {R : Room} {s : State} {m : MethodId} {args : Array Value} {below : List Frame} {meth : Method} {c : Code} {Q : State → Prop} {H : Heap} {locs : List Loc} {cells slots : Nat} {cc : ByteArray} {pc nL : Nat} {ls : Array Slot} {rest : List Value} {A : Nat → Prop} {own : String} {g : mG} {y : MethodName} {bytes : ByteArray} {maxL : Nat} {ret : Option FieldType} {rm : Room} {mc ms idx : Nat} {av : List Value} {X ws0 : va_W} {Wd : List Cond} {Post : Option Value → va_W → Prop} {q : Nat}
theorem vBack {st0 : List Value} (hA : ∀ x, s.heap.size ≤ x → A x) (hX : iSt g A s (X ++ ws0) H locs)
    (hr : va_Run p l e R s m args below meth c H locs cells slots mc ms (F0 m pc ls st0) rest (fun st oc t => vPost g ws0 H.size Post st oc t) (va_A ws0 H.size))
    (kk : ∀ (v : Option Value) (ws1 : va_W) (H' : Heap) (locs' : List Loc), Post v ws1 → iSt g A s (X ++ ws1) H' locs' → W p l e R s m args below meth c H' locs' (cells + mc) (slots + ms) Q (F0 m (pc + 3) ls (v.toList ++ rest))) :
    W p l e R s m args below meth c H locs cells slots Q (F0 m pc ls st0) := by
  intro T hT XX
  obtain ⟨hXs, h0s, hdj⟩ := hX.split
  obtain ⟨hP, hD, hS⟩ := hX
  obtain ⟨v, st₀, t, T', L, h0, X', hL, e1, e2, ⟨⟨v', ws1, hv, hpost, hw, hd⟩, hz, hk⟩, st⟩ := hr T hT XX
  cases hv
  rw [h0] at hz hk
  have hxa : ∀ x, va_A ws0 H.size x → A x := fun x h => by
    rcases h with ⟨k, e, h⟩ | h
    · exact h0s.2.1.2 k (x, e) h
    · exact hA x (Nat.le_trans hS.1 h)
  have hS' : va_S A s.heap T'.heap (locs ++ L) := ⟨Nat.le_trans hS.1 (by rw [e1]; exact hz), fun x h1 h2 => by rw [e1, hk x (Nat.lt_of_lt_of_le h1 hS.1) (fun z => h2 (hxa x z))]; exact hS.2.1 x h1 h2, fun x hx => by
      rcases List.mem_append.mp hx with h | h
      · exact hS.2.2 x h
      · exact hxa _ (hL x h)⟩
  have hXq : ∀ (k : Nat) (x : Nat × va_E), X[k]? = some x → x.1 < H.size ∧ ¬ va_A ws0 H.size x.1 := fun k x hx => by
    have hl := (hXs.1 k x hx).lt
    refine ⟨hl, fun z => ?_⟩
    rcases z with ⟨k2, e, z⟩ | z
    · exact hdj k k2 x (x.1, e) hx z rfl
    · omega
  have hPX : va_P g.2.1 vwCl X T'.heap := fun k x hx => by
    obtain ⟨h1, h2⟩ := hXq k x hx
    rw [e1]
    exact (hXs.1 k x hx).kept (hk _ h1 h2)
  obtain ⟨t2, a1, b1⟩ := kk v ws1 T'.heap (locs ++ L) hpost ⟨hPX.app (by rw [e1]; exact hw), va_D.app hXs.2.1 (hd.weaken (fun _ _ _ h => hxa _ h)) (fun i j x z hi hj hxz => (hXq i x hi).2 (by rw [hxz]; exact hd.2 j z hj)), hS'⟩ T' rfl X'
  exact ⟨t2, st t2 a1, b1⟩
theorem vPreU (hE : iE g A s s.heap) (hA : ∀ x, s.heap.size ≤ x → A x) (hX : iSt g A s (X ++ ws0) H locs) (U : State) (hU : U.heap = H) (hW : s.WarmedH U.vm) : vPre g ws0 H.size U := by
  obtain ⟨hXs, h0s, hdj⟩ := hX.split
  have hxa : ∀ x, va_A ws0 H.size x → A x := fun x h => by
    rcases h with ⟨k, e, h⟩ | h
    · exact h0s.2.1.2 k (x, e) h
    · exact hA x (Nat.le_trans h0s.2.2.1 h)
  refine ⟨by rw [hU], by rw [hU]; exact h0s.1, h0s.2.1.weaken (fun _ _ _ _ => trivial), ?_, va_AO.moved hW.alike hE.2.1, hE.2.2.moved hW.alike⟩
  rw [hU]
  exact mEnv.warm hW ((hE.1.kept h0s.2.2.2.1).narrow hxa)
theorem vCallI (S : CallFix p m c cc nL s args xGW own) (hE : iE g A s s.heap) (hA : ∀ x, s.heap.size ≤ x → A x) (hX : iSt g A s (X ++ ws0) H locs) (hM : vOK Wd y bytes maxL none rm mc ms g (.ref q :: av) ws0 Post) (hWd : ∀ w ∈ Wd, w ∈ xGW) (hrm : rm.cells = mc ∧ rm.slots = ms) (hR : rm.frames + 1 ≤ R.frames ∧ 8 + (maxL + 11) + rm.locals ≤ R.locals)
    (hcode : Cond.code y bytes maxL none ∈ mGW) (hlink : Cond.methodLink own idx y ∈ mGW) (hinst : Cond.instanceMethod y ∈ mGW) (hini : Cond.initialized y.cls ∈ mGW) (hn1 : y.name = "<init>")
    (hy : y.cls ≠ "java/lang/invoke/MethodHandle" ∧ y.cls ≠ "java/lang/invoke/VarHandle" ∧ (parseMethodDescriptor y.desc).map (fun d => d.parameters.length) = some av.length)
    (hsz : ls.size = nL) (hrest : (rest.map fun v => v.category).sum ≤ 8) (hdg : decode cc pc = .ok (.invokespecial idx, 3)) (hf : cells + mc ≤ R.cells ∧ slots + ms ≤ R.slots)
    (kk : ∀ (v : Option Value) (ws1 : va_W) (H' : Heap) (locs' : List Loc), Post v ws1 → iSt g A s (X ++ ws1) H' locs' → W p l e R s m args below meth c H' locs' (cells + mc) (slots + ms) Q (F0 m (pc + 3) ls (v.toList ++ rest))) :
    W p l e R s m args below meth c H locs cells slots Q (F0 m pc ls (av.reverse ++ .ref q :: rest)) := by
  obtain ⟨hx, hb, hml, hown, hts0⟩ := id S
  have hts : ∀ w ∈ mGW, w.before args s = true := fun w h => hts0 w (xIn h)
  exact vBack hA hX (va_runI (p := p) (l := l) (e := e) (R := R) (s := s) (m := m) (args := args) (below := below) (meth := meth) (c := c) (H := H) (locs := locs) (cells := cells) (slots := slots) (own := own) (b := q) (As := av) (rest := rest) (n := av.length) (index := idx) (g := F0 m pc ls (av.reverse ++ .ref q :: rest))
    S (hM l H.size) ⟨callB_of av.length hts0 (xGoodIn hWd hcode) rfl hrm.1 hrm.2 (hts _ hini) (hts _ hlink) hy hR, hn1, hts _ hinst⟩ ⟨vBlind, fun U hU hW => ⟨rfl, vPreU hE hA hX U hU hW⟩⟩ rfl rfl hsz rfl (by show 2 * 0 + _ ≤ 8; omega) hdg hf) kk
theorem vCallS (S : CallFix p m c cc nL s args xGW own) (hE : iE g A s s.heap) (hA : ∀ x, s.heap.size ≤ x → A x) (hX : iSt g A s (X ++ ws0) H locs) (hM : vOK Wd y bytes maxL ret rm mc ms g av ws0 Post) (hWd : ∀ w ∈ Wd, w ∈ xGW) (hrm : rm.cells = mc ∧ rm.slots = ms) (hR : rm.frames + 1 ≤ R.frames ∧ 8 + (maxL + 11) + rm.locals ≤ R.locals)
    (hcode : Cond.code y bytes maxL ret ∈ mGW) (hlink : Cond.methodLink own idx y ∈ mGW) (hst : Cond.static y ∈ mGW) (hini : Cond.initialized y.cls ∈ mGW)
    (hy : y.cls ≠ "java/lang/invoke/MethodHandle" ∧ y.cls ≠ "java/lang/invoke/VarHandle" ∧ (parseMethodDescriptor y.desc).map (fun d => d.parameters.length) = some av.length)
    (hsz : ls.size = nL) (hrest : (rest.map fun v => v.category).sum ≤ 8) (hdg : decode cc pc = .ok (.invokestatic idx, 3)) (hf : cells + mc ≤ R.cells ∧ slots + ms ≤ R.slots)
    (kk : ∀ (v : Option Value) (ws1 : va_W) (H' : Heap) (locs' : List Loc), Post v ws1 → iSt g A s (X ++ ws1) H' locs' → W p l e R s m args below meth c H' locs' (cells + mc) (slots + ms) Q (F0 m (pc + 3) ls (v.toList ++ rest))) :
    W p l e R s m args below meth c H locs cells slots Q (F0 m pc ls (av.reverse ++ rest)) := by
  obtain ⟨hx, hb, hml, hown, hts0⟩ := id S
  have hts : ∀ w ∈ mGW, w.before args s = true := fun w h => hts0 w (xIn h)
  exact vBack hA hX (va_runS (p := p) (l := l) (e := e) (R := R) (s := s) (m := m) (args := args) (below := below) (meth := meth) (c := c) (H := H) (locs := locs) (cells := cells) (slots := slots) (own := own) (As := av) (rest := rest) (n := av.length) (index := idx) (g := F0 m pc ls (av.reverse ++ rest))
    S (hM l H.size) ⟨callB_of av.length hts0 (xGoodIn hWd hcode) rfl hrm.1 hrm.2 (hts _ hini) (hts _ hlink) hy hR, hts _ hst⟩ ⟨vBlind, fun U hU hW => ⟨rfl, vPreU hE hA hX U hU hW⟩⟩ rfl rfl hsz rfl (by show 2 * 0 + _ ≤ 8; omega) hdg hf) kk
theorem vCallV (S : CallFix p m c cc nL s args xGW own) (hE : iE g A s s.heap) (hA : ∀ x, s.heap.size ≤ x → A x) (hX : iSt g A s (X ++ ws0) H locs) (hM : vOK Wd y bytes maxL ret rm mc ms g (.ref q :: av) ws0 Post) (hWd : ∀ w ∈ Wd, w ∈ xGW) (hrm : rm.cells = mc ∧ rm.slots = ms) (hR : rm.frames + 1 ≤ R.frames ∧ 8 + (maxL + 11) + rm.locals ≤ R.locals)
    (hrec : ∃ cell : Cell, H[q]? = some cell ∧ cell.vm.isStatics = false ∧ s.vm.findClass y.cls = some cell.cls)
    (hcode : Cond.code y bytes maxL ret ∈ mGW) (hlink : Cond.methodLink own idx y ∈ mGW) (hinst : Cond.instanceMethod y ∈ mGW) (hsel : Cond.selects y.cls y y ∈ mGW) (hini : Cond.initialized y.cls ∈ mGW)
    (hy : y.cls ≠ "java/lang/invoke/MethodHandle" ∧ y.cls ≠ "java/lang/invoke/VarHandle" ∧ (parseMethodDescriptor y.desc).map (fun d => d.parameters.length) = some av.length)
    (hsz : ls.size = nL) (hrest : (rest.map fun v => v.category).sum ≤ 8) (hdg : decode cc pc = .ok (.invokevirtual idx, 3)) (hf : cells + mc ≤ R.cells ∧ slots + ms ≤ R.slots)
    (kk : ∀ (v : Option Value) (ws1 : va_W) (H' : Heap) (locs' : List Loc), Post v ws1 → iSt g A s (X ++ ws1) H' locs' → W p l e R s m args below meth c H' locs' (cells + mc) (slots + ms) Q (F0 m (pc + 3) ls (v.toList ++ rest))) :
    W p l e R s m args below meth c H locs cells slots Q (F0 m pc ls (av.reverse ++ .ref q :: rest)) := by
  obtain ⟨hx, hb, hml, hown, hts0⟩ := id S
  have hts : ∀ w ∈ mGW, w.before args s = true := fun w h => hts0 w (xIn h)
  exact vBack hA hX (va_runV (p := p) (l := l) (e := e) (R := R) (s := s) (m := m) (args := args) (below := below) (meth := meth) (c := c) (H := H) (locs := locs) (cells := cells) (slots := slots) (own := own) (C := y.cls) (b := q) (As := av) (rest := rest) (n := av.length) (index := idx) (g := F0 m pc ls (av.reverse ++ .ref q :: rest))
    S (hM l H.size) ⟨callB_of av.length hts0 (xGoodIn hWd hcode) rfl hrm.1 hrm.2 (hts _ hini) (hts _ hlink) hy hR, hts _ hinst, hts _ hsel⟩ ⟨vBlind, hrec, fun U hU hW => ⟨rfl, vPreU hE hA hX U hU hW⟩⟩ rfl rfl hsz rfl (by show 2 * 0 + _ ≤ 8; omega) hdg hf) kk
/-- a call by the name z, of which the receiver's class C selects y -/
theorem vCallU {z : MethodName} {C : String} {b0 : ByteArray} {m0 : Nat} {r0 : Option FieldType} (S : CallFix p m c cc nL s args xGW own) (hE : iE g A s s.heap) (hA : ∀ x, s.heap.size ≤ x → A x) (hX : iSt g A s (X ++ ws0) H locs) (hM : vOK Wd y bytes maxL ret rm mc ms g (.ref q :: av) ws0 Post) (hWd : ∀ w ∈ Wd, w ∈ xGW) (hrm : rm.cells = mc ∧ rm.slots = ms) (hR : rm.frames + 1 ≤ R.frames ∧ 8 + (maxL + 11) + rm.locals ≤ R.locals)
    (hrec : ∃ cell : Cell, H[q]? = some cell ∧ cell.vm.isStatics = false ∧ s.vm.findClass C = some cell.cls)
    (hcode : Cond.code y bytes maxL ret ∈ mGW) (hcz : Cond.code z b0 m0 r0 ∈ mGW) (hlink : Cond.methodLink own idx z ∈ mGW) (hsame : Cond.sameMethod z.cls z.cls z.name z.desc ∈ mGW) (hinz : Cond.instanceMethod z ∈ mGW) (hinst : Cond.instanceMethod y ∈ mGW) (hsel : Cond.selects C z y ∈ mGW) (hini : Cond.initialized y.cls ∈ mGW)
    (hz : z.cls ≠ "java/lang/invoke/MethodHandle" ∧ z.cls ≠ "java/lang/invoke/VarHandle" ∧ (parseMethodDescriptor z.desc).map (fun d => d.parameters.length) = some av.length)
    (hsz : ls.size = nL) (hrest : (rest.map fun v => v.category).sum ≤ 8) (hdg : decode cc pc = .ok (.invokevirtual idx, 3)) (hf : cells + mc ≤ R.cells ∧ slots + ms ≤ R.slots)
    (kk : ∀ (v : Option Value) (ws1 : va_W) (H' : Heap) (locs' : List Loc), Post v ws1 → iSt g A s (X ++ ws1) H' locs' → W p l e R s m args below meth c H' locs' (cells + mc) (slots + ms) Q (F0 m (pc + 3) ls (v.toList ++ rest))) :
    W p l e R s m args below meth c H locs cells slots Q (F0 m pc ls (av.reverse ++ .ref q :: rest)) := by
  obtain ⟨hx, hb, hml, hown, hts0⟩ := id S
  have hts : ∀ w ∈ mGW, w.before args s = true := fun w h => hts0 w (xIn h)
  have hcw : va_CU R s args own C z.cls idx z y bytes maxL ret (.code y bytes maxL ret :: Wd) rm mc ms av.length := by
    have hG := xGoodIn hWd hcode
    refine ⟨⟨hrm.1, hrm.2, hR.1, hR.2, pay_in hts0 hG, List.mem_cons_self⟩, hts _ hcode, hts _ hini, ⟨hz.1, hz.2.1⟩, fun sig h => ?_, hts _ hlink, hts _ hsame, va_Decl.of (hts _ hinz) (hts _ hcz), hts _ hsel, hts _ hinst⟩
    have h2 := hz.2.2
    rw [h] at h2
    exact (Option.some.inj h2).symm
  exact vBack hA hX (va_runU (p := p) (l := l) (e := e) (R := R) (s := s) (m := m) (args := args) (below := below) (meth := meth) (c := c) (H := H) (locs := locs) (cells := cells) (slots := slots) (own := own) (C := C) (owner := z.cls) (x := z) (y := y) (b := q) (As := av) (rest := rest) (n := av.length) (index := idx) (g := F0 m pc ls (av.reverse ++ .ref q :: rest))
    S (hM l H.size) hcw ⟨vBlind, hrec, fun U hU hW => ⟨rfl, vPreU hE hA hX U hU hW⟩⟩ rfl rfl hsz rfl (by show 2 * 0 + _ ≤ 8; omega) hdg hf) kk
/-! walks -/
def vCx (p : Program) (s : State) (m : MethodId) (args : Array Value) (meth : Method) (c : Code) (cc : ByteArray) (nL : Nat) (own : String) (ret : Option FieldType) (g : mG) (A : Nat → Prop) : Prop :=
  CallFix p m c cc nL s args xGW own ∧ meth.sig.returnType = ret ∧ meth.locks = false ∧ iE g A s s.heap ∧ ∀ x, s.heap.size ≤ x → A x
abbrev vQ (below : List Frame) (g : mG) (args : Array Value) (s : State) (mc ms : Nat) (ws0 : va_W) (Post : Option Value → va_W → Prop) : State → Prop := MQ below (fun _ st oc t => vPost g ws0 s.heap.size Post st oc t) args s mc ms (va_A ws0 s.heap.size)
theorem vOK.of (hcls : plainName y.cls = true) (hlen : (lg_sl av).length ≤ maxL)
    (body : ∀ {p : Program} {l : Launch} {e : Env} {s : State} {m : MethodId} {args : Array Value} {below : List Frame} {meth : Method} {c : Code} {ls : Array Slot}, vCx p s m args meth c bytes maxL y.cls ret g (va_A ws0 s.heap.size) → (y.name = "<init>" → meth.name = "<init>") → iSt g (va_A ws0 s.heap.size) s ws0 s.heap [] → ls.size = maxL → lv_has ls maxL (lv_args 0 av) →
      W p l e rm s m args below meth c s.heap [] 0 0 (vQ below g args s mc ms ws0 Post) (F0 m 0 ls [])) : vOK xGW y bytes maxL ret rm mc ms g av ws0 Post := by
  intro l sz
  refine Met.ofW (cc := bytes) (maxL := maxL) (ret := ret) hcls rfl ?_
  intro p e s m args below meth c s₁ Bd hml hv
  obtain ⟨rfl, hsz, hP, hD, hE⟩ := hv
  subst hsz
  have hts := atoms_spec (ws := .code y bytes maxL ret :: xGW) Bd.pre
  have hown : s.vm.findClass y.cls = some m.cls := findClass_of_methodNamed Bd.named
  have hl := lv_entry av (n := maxL) hlen
  rw [lg_entry_eq]
  generalize (lg_sl av ++ List.replicate (maxL - (lg_sl av).length) Slot.unset).toArray = ls at hl ⊢
  exact body ⟨⟨Bd.exec, Bd.bytes, hml, hown, fun w h => hts w (List.mem_cons_of_mem _ h)⟩, Bd.returns, Bd.notSynchronized, hE, fun x h => Or.inr h⟩ (fun h => (name_of_methodNamed Bd.named Bd.method).1.trans h) ⟨hP, ⟨hD.1, fun k q hk => va_A.in hk⟩, va_S.rf⟩ hl.1 hl
theorem vRetA {rt : FieldType} (C0 : vCx p s m args meth c cc nL own (some rt) g (va_A ws0 s.heap.size)) (hrt : (∃ n, rt = .object n) ∨ ∃ t, rt = .array t) (hX : iSt g (va_A ws0 s.heap.size) s X H locs) (hPo : Post (some (.ref q)) X) (hdg : decode cc pc = .ok (.areturn, 1)) (hcl : cells ≤ mc) (hsl : slots ≤ ms) :
    W p l e R s m args below meth c H locs cells slots (vQ below g args s mc ms ws0 Post) (F0 m pc ls [.ref q]) := by
  obtain ⟨⟨hx, hb, hml, hown, hts0⟩, hr, hlk, hE, hA⟩ := C0
  obtain ⟨hP, hD, hS⟩ := hX
  exact W.widen hcl hsl (W.aret hx hb hr hrt (Or.inr ⟨_, rfl⟩) (fun t ht hW => ⟨⟨_, _, rfl, hPo, by rw [ht]; exact hP, hD⟩, hS.F ht⟩) hS.2.2 hdg hlk)
theorem vRetI {v : Int32} (C0 : vCx p s m args meth c cc nL own (some .int) g (va_A ws0 s.heap.size)) (hX : iSt g (va_A ws0 s.heap.size) s X H locs) (hPo : Post (some (.int v)) X) (hdg : decode cc pc = .ok (.ireturn, 1)) (hcl : cells ≤ mc) (hsl : slots ≤ ms) :
    W p l e R s m args below meth c H locs cells slots (vQ below g args s mc ms ws0 Post) (F0 m pc ls [.int v]) := by
  obtain ⟨⟨hx, hb, hml, hown, hts0⟩, hr, hlk, hE, hA⟩ := C0
  obtain ⟨hP, hD, hS⟩ := hX
  exact W.widen hcl hsl (W.iret hx hb hr (fun t ht hW => ⟨⟨_, _, rfl, hPo, by rw [ht]; exact hP, hD⟩, hS.F ht⟩) hS.2.2 hdg hlk)
theorem vRetV (C0 : vCx p s m args meth c cc nL own none g (va_A ws0 s.heap.size)) (hX : iSt g (va_A ws0 s.heap.size) s X H locs) (hPo : Post none X) (hdg : decode cc pc = .ok (.return_, 1)) (hcl : cells ≤ mc) (hsl : slots ≤ ms) :
    W p l e R s m args below meth c H locs cells slots (vQ below g args s mc ms ws0 Post) (F0 m pc ls []) := by
  obtain ⟨⟨hx, hb, hml, hown, hts0⟩, hr, hlk, hE, hA⟩ := C0
  obtain ⟨hP, hD, hS⟩ := hX
  exact W.widen hcl hsl (W.vret hx hb hr (fun t ht hW => ⟨⟨_, _, rfl, hPo, by rw [ht]; exact hP, hD⟩, hS.F ht⟩) hS.2.2 hdg hlk)
end VCALL
