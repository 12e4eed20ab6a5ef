/-! ===== CALLS OUT OF A WALK, AT ANY ROOM ===== -/
/-- a contract at any room, that may make cells -/
def xOKr (Wd : List Cond) (B : List mH) (y : MethodName) (bytes : ByteArray) (maxL : Nat) (ret : Option FieldType) (rm : Room) (mc ms : Nat) (T : mG → mT) : Prop :=
  ∀ (l : Launch) (g : mG) (sz : Nat) (as : List mV) (M : mM) (P : mP), T g as M P → Met l y (.code y bytes maxL ret :: Wd) rm (va_Pc (as.map (mval g.1)) (xB B g sz M)) (xQ B g P (xA B g sz)) mc ms (xA B g sz)
theorem xOKr.w {Wd : List Cond} {B : List mH} {y : MethodName} {bytes : ByteArray} {maxL : Nat} {ret : Option FieldType} {d : Nat} {T : mG → mT} (h : xOKw Wd B y bytes maxL ret d T) : xOKr Wd B y bytes maxL ret (mRm d) 0 0 T := fun l g sz as M P hT => h l g sz as M P hT
theorem xOKr.m {y : MethodName} {bytes : ByteArray} {maxL : Nat} {ret : Option FieldType} {d : Nat} {T : mG → mT} (h : mOK y bytes maxL ret d T) : xOKr mGW mSH y bytes maxL ret (mRm d) 0 0 T := fun l g sz as M P hT => h l g sz as M P hT
section CALLS
variable {p : Program} {l : Launch} {e : Env} {R : Room} {s : State} {m : MethodId} {args : Array Value} {below : List Frame} {meth : Method} {c : Code} {Q : State → Prop} {H : Heap} {locs : List Loc} {cells slots : Nat} {cc : ByteArray} {pc nL : Nat} {ls : Array Slot} {rest : List Value} {A : Nat → Prop} {own : String} {B : List mH} {g : mG} {M : mM} {Wd : List Cond} {y : MethodName} {bytes : ByteArray} {maxL : Nat} {ret : Option FieldType} {rm : Room} {mc ms : Nat} {T : mG → mT} {n idx : Nat}
theorem xBackR {a : Array Value} {P : mP} {st0 : List Value} {H0 : Heap} (hr : va_Run p l e R s m args below meth c H locs cells slots mc ms (F0 m pc ls st0) rest (xQ B g P (xA B g H.size) a) (xA B g H.size)) (hS : va_S A H0 H locs) (hA : ∀ q, xA B g H.size q → A q)
    (kk : ∀ (r : Option mV) (M' : mM) (H' : Heap) (locs' : List Loc), va_P g.2.1 vwCl (mWs g.1 g.2.2.1 (xS B g) M') H' → va_S A H0 H' locs' → H.size ≤ H'.size → (∀ q, q < H.size → ¬ xA B g H.size q → H'[q]? = H[q]?) → P r M' → W p l e R s m args below meth c H' locs' (cells + mc) (slots + ms) Q (F0 m (pc + 3) ls ((r.map (mval g.1)).toList ++ rest))) :
    W p l e R s m args below meth c H locs cells slots Q (F0 m pc ls st0) := by
  intro T hT X
  obtain ⟨v, st₀, t, T', L, h0, X', hL, e1, e2, ⟨⟨r, M', hv, hp, hw⟩, hz, hk⟩, st⟩ := hr T hT X
  cases hv
  rw [h0] at hz hk
  have hS' : va_S A H0 T'.heap (locs ++ L) := ⟨Nat.le_trans hS.1 (by rw [e1]; exact hz), fun q h1 h2 => by rw [e1, hk q (Nat.lt_of_lt_of_le h1 hS.1) (fun z => h2 (hA q z))]; exact hS.2.1 q h1 h2, fun q hq => by
      rcases List.mem_append.mp hq with h | h
      · exact hS.2.2 q h
      · exact hA _ (hL q h)⟩
  obtain ⟨t2, a1, b1⟩ := kk r M' T'.heap (locs ++ L) (by rw [e1]; exact hw) hS' (by rw [e1]; exact hz) (fun q h1 h2 => by rw [e1]; exact hk q h1 h2) hp T' rfl X'
  exact ⟨t2, st t2 a1, b1⟩
theorem xPreR (hD : va_D (fun _ => True) (mWs g.1 g.2.2.1 (xS B g) M)) (hE : mEnv g A s s.heap) (hP : va_P g.2.1 vwCl (mWs g.1 g.2.2.1 (xS B g) M) H) (hS : va_S A s.heap H locs) (hA : ∀ q, xA B g H.size q → A q) (U : State) (hU : U.heap = H) (hW : s.WarmedH U.vm) : xB B g H.size M U := by
  refine ⟨by rw [hU], by rw [hU]; exact hP, hD, ?_⟩
  rw [hU]
  exact mEnv.warm hW ((hE.kept hS.2.1).narrow hA)
theorem xRecv {C : String} {a : Nat} (h : mIsA (xS B g) C a) (hE : mEnv g A s s.heap) (hP : va_P g.2.1 vwCl (mWs g.1 g.2.2.1 (xS B g) M) H) (hS : va_S A s.heap H locs) : ∃ cell : Cell, H[g.1 a]? = some cell ∧ cell.vm.isStatics = false ∧ s.vm.findClass C = some cell.cls := by
  rcases h with ⟨ci, sz, rs, q, h1, h2, rfl⟩ | ⟨rfl, h⟩
  · exact va_recv hE.1 hP h2 (mWs_get (M := M) h1)
  · have hq : 1000 ≤ a ∧ a < 1017 := by simpa [mRoS] using h
    obtain ⟨hs0, -⟩ := hE.2.2.2.1.1 (a - 1000) (by omega)
    rw [show 1000 + (a - 1000) = a by omega] at hs0
    obtain ⟨cell, h1, h2, h3, -⟩ := hs0.kept hS.2.1
    exact ⟨cell, h1, h2, h3⟩
theorem xCallV (S : CallFix p m c cc nL s args xGW own) (hM : xOKr Wd B y bytes maxL ret rm mc ms T) (hWd : ∀ w ∈ Wd, w ∈ xGW) (hrm : rm.cells = mc ∧ rm.slots = ms) (hR : rm.frames + 1 ≤ R.frames ∧ 8 + (maxL + 11) + rm.locals ≤ R.locals) (hrec : xHasR B y n T)
    (hcode : Cond.code y bytes maxL ret ∈ mGW) (hlink : Cond.methodLink own idx y ∈ mGW) (hinst : Cond.instanceMethod y ∈ mGW) (hsel : Cond.selects y.cls y y ∈ mGW) (hini : Cond.initialized y.cls ∈ mGW)
    (hy : y.cls ≠ "java/lang/invoke/MethodHandle" ∧ y.cls ≠ "java/lang/invoke/VarHandle" ∧ (parseMethodDescriptor y.desc).map (fun d => d.parameters.length) = some n)
    (hE : mEnv g A s s.heap) (hA : ∀ q, xA B g H.size q → A q) (hP : va_P g.2.1 vwCl (mWs g.1 g.2.2.1 (xS B g) M) H) (hD : va_D (fun _ => True) (mWs g.1 g.2.2.1 (xS B g) M)) (hS : va_S A s.heap H locs)
    {as : List mV} {Po : mP} (hT : T g as M Po) (hlen : as.length = n + 1) (hsz : ls.size = nL) (hrest : (rest.map fun v => v.category).sum ≤ 8) (hdg : decode cc pc = .ok (.invokevirtual idx, 3)) (hf : cells + mc ≤ R.cells ∧ slots + ms ≤ R.slots)
    (kk : ∀ (r : Option mV) (M' : mM) (H' : Heap) (locs' : List Loc), va_P g.2.1 vwCl (mWs g.1 g.2.2.1 (xS B g) M') H' → va_S A s.heap H' locs' → H.size ≤ H'.size → (∀ q, q < H.size → ¬ xA B g H.size q → H'[q]? = H[q]?) → Po r M' → W p l e R s m args below meth c H' locs' (cells + mc) (slots + ms) Q (F0 m (pc + 3) ls ((r.map (mval g.1)).toList ++ rest))) :
    W p l e R s m args below meth c H locs cells slots Q (F0 m pc ls ((as.map (mval g.1)).reverse ++ rest)) := by
  obtain ⟨hx, hb, hml, hown, hts0⟩ := id S
  have hts : ∀ w ∈ mGW, w.before args s = true := fun w h => hts0 w (xIn h)
  obtain ⟨a, rs, rfl, hisa⟩ := hrec g as M Po hT hlen
  have hMet := hM l g H.size (.inr (some a) :: rs) M Po hT
  have hrun := va_runV (p := p) (l := l) (e := e) (R := R) (s := s) (m := m) (args := args) (below := below) (meth := meth) (c := c) (H := H) (locs := locs) (cells := cells) (slots := slots) (own := own) (C := y.cls) (b := g.1 a) (As := rs.map (mval g.1)) (rest := rest) (n := n) (index := idx) (g := F0 m pc ls (((Sum.inr (some a) :: rs).map (mval g.1)).reverse ++ rest))
    S hMet ⟨callB_of n hts0 (xGoodIn hWd hcode) rfl hrm.1 hrm.2 (hts _ hini) (hts _ hlink) hy hR, hts _ hinst, hts _ hsel⟩
    ⟨xB_blind, xRecv hisa hE hP hS, fun U hU hW => ⟨rfl, xPreR hD hE hP hS hA U hU hW⟩⟩ rfl (by simpa using hlen) hsz (by show List.reverse _ ++ _ = _; simp [mval, va_rf]) (by show 2 * 0 + _ ≤ 8; omega) hdg hf
  exact xBackR hrun hS hA kk
end CALLS
/-! ===== CONSTRUCTORS ===== -/
/-- the constants beside another world: its first n cells at ad -/
def gN (g : mG) (n : Nat) (ad : Nat → Nat) : mG := (fun c => if c < n then ad c else if c = 999 then (match g.2.2.2.1 with | some i => g.1 i | none => 0) else g.1 c, g.2.1, g.2.2.1, g.2.2.2.1.map (fun _ => 999), [])
theorem gN_at {g : mG} {n : Nat} {ad : Nat → Nat} (hn : n ≤ 999) {c : Nat} (h : 1000 ≤ c) : (gN g n ad).1 c = g.1 c := by
  show (if c < n then _ else if c = 999 then _ else _) = _
  rw [if_neg (by omega), if_neg (by omega)]
theorem gN_lo {g : mG} {n : Nat} {ad : Nat → Nat} {c : Nat} (h : c < n) : (gN g n ad).1 c = ad c := if_pos h
theorem mEnv_N {g : mG} {n : Nat} {ad : Nat → Nat} (hn : n ≤ 999) {A : Nat → Prop} {U : State} {H : Heap} (h : mEnv g A U H) : mEnv (gN g n ad) A U H := by
  obtain ⟨h1, h2, h3, ⟨s1, s2, s3⟩, z1, z2, z3, z4⟩ := h
  refine ⟨h1, h2, fun q hq => ?_, ⟨fun i hi => ?_, ?_, ?_⟩, z1, ?_, ?_, ?_⟩
  · rw [gN_at hn (by omega)]
    exact h3 q hq
  · rw [gN_at hn (c := 1000 + i) (by omega), gN_at hn (c := 1100 + i) (by omega)]
    exact s1 i hi
  · rw [gN_at hn (by omega)]
    exact s2
  · rw [gN_at hn (by omega)]
    exact s3
  · rw [gN_at hn (by omega)]
    exact z2
  · rw [gN_at hn (by omega)]
    exact z3
  · have e : (gN g n ad).2.2.2.1.map (gN g n ad).1 = g.2.2.2.1.map g.1 := by
      show (g.2.2.2.1.map (fun _ => 999)).map (gN g n ad).1 = _
      cases ho : g.2.2.2.1 with
      | none => rfl
      | some i =>
        show some ((gN g n ad).1 999) = some (g.1 i)
        congr 1
        show (if 999 < n then _ else if 999 = 999 then (match g.2.2.2.1 with | some i => g.1 i | none => 0) else _) = _
        rw [if_neg (by omega), if_pos rfl, ho]
    rw [e]
    exact z4
/-- an array of int arrays has them as its components -/
def iAO (g : mG) (U : State) : Prop := ∃ kA : Class, U.vm.classes[g.2.2.1 1]? = some kA ∧ kA.kind = .array (g.2.2.1 0) (.array .int)
theorem iAO.moved {g : mG} {u U : State} (hvm : u.vm.Alike U.vm) (h : iAO g u) : iAO g U := by
  obtain ⟨kA, h1, h2⟩ := h
  obtain ⟨k', hk', he⟩ := hvm.2.2 _ _ h1
  exact ⟨k', hk', by rw [he]; exact h2⟩
def iA (h0 sz : Nat) : Nat → Prop := fun q => q = h0 ∨ sz ≤ q
def iE (g : mG) (A : Nat → Prop) (U : State) (H : Heap) : Prop := mEnv g A U H ∧ va_AO RX4 U ∧ iAO g U
/-- a constructor: from an object as 'new' makes it to a block of cells, the object the first of them -/
def iOK (y : MethodName) (bytes : ByteArray) (maxL : Nat) (rm : Room) (mc ms : Nat) (av : List Value) (ci : Nat) (fs0 : List Value) (SH : List mH) (R0 : mM → Prop) : Prop :=
  ∀ (l : Launch) (g : mG) (h0 sz : Nat), Met l y (.code y bytes maxL none :: xGW) rm (va_Pc (.ref h0 :: av) (fun U => U.heap.size = sz ∧ va_P g.2.1 vwCl [(h0, .inr (ci, fs0))] U.heap ∧ iE g (iA h0 sz) U U.heap))
    (fun _ st oc t => (∃ (ad : Nat → Nat) (M : mM), oc = .returned none ∧ ad 0 = h0 ∧ R0 M ∧ va_P g.2.1 vwCl (mWs ad g.2.2.1 SH M) t.heap ∧ va_D (iA h0 sz) (mWs ad g.2.2.1 SH M)) ∧ va_F (iA h0 sz) st t) mc ms (iA h0 sz)
theorem iE_blind {g : mG} {h0 sz ci : Nat} {fs0 : List Value} {av : List Value} : FrameBlind (va_Pc av (fun U => U.heap.size = sz ∧ va_P g.2.1 vwCl [(h0, .inr (ci, fs0))] U.heap ∧ iE g (iA h0 sz) U U.heap)) := by
  intro a U gf mk h
  obtain ⟨h1, h2, h3, h4, h5, h6⟩ := h
  exact ⟨h1, h2, h3, mEnv.same (u := U) (U := U.calling gf mk a) rfl h4, h5, h6⟩
theorem va_P_one {D : va_G} {cl : List vw_C} {x : Nat × va_E} {H : Heap} (h : va_at D cl x H) : va_P D cl [x] H := fun k q hk => by
  have hz : k < 1 := (List.getElem?_eq_some_iff.mp hk).1
  obtain rfl : k = 0 := by omega
  cases hk
  exact h
section INITS
variable {p : Program} {l : Launch} {e : Env} {R : Room} {s : State} {m : MethodId} {args : Array Value} {below : List Frame} {meth : Method} {c : Code} {Q : State → Prop} {H : Heap} {locs : List Loc} {cells slots : Nat} {cc : ByteArray} {pc nL : Nat} {ls : Array Slot} {rest : List Value} {A : Nat → Prop} {own : String} {g : mG} {y : MethodName} {bytes : ByteArray} {maxL : Nat} {rm : Room} {mc ms ci idx : Nat} {fs0 av : List Value} {SH : List mH} {R0 : mM → Prop} {X : va_W} {q : Nat}
/-- behind a constructor's call -/
theorem iBack {a : Array Value} {st0 : List Value} (hP : va_P g.2.1 vwCl (X ++ [(q, .inr (ci, fs0))]) H) (hD : va_D A (X ++ [(q, .inr (ci, fs0))])) (hS : va_S A s.heap H locs) (hA : ∀ x, s.heap.size ≤ x → A x)
    (hr : va_Run p l e R s m args below meth c H locs cells slots mc ms (F0 m pc ls st0) rest ((fun _ st oc t => (∃ (ad : Nat → Nat) (M : mM), oc = .returned none ∧ ad 0 = q ∧ R0 M ∧ va_P g.2.1 vwCl (mWs ad g.2.2.1 SH M) t.heap ∧ va_D (iA q H.size) (mWs ad g.2.2.1 SH M)) ∧ va_F (iA q H.size) st t : Array Value → State → Outcome → State → Prop) a) (iA q H.size))
    (kk : ∀ (ad : Nat → Nat) (M : mM) (H' : Heap) (locs' : List Loc), ad 0 = q → R0 M → va_P g.2.1 vwCl (X ++ mWs ad g.2.2.1 SH M) H' → va_D A (X ++ mWs ad g.2.2.1 SH M) → va_S A s.heap H' locs' → W p l e R s m args below meth c H' locs' (cells + mc) (slots + ms) Q (F0 m (pc + 3) ls rest)) :
    W p l e R s m args below meth c H locs cells slots Q (F0 m pc ls st0) := by
  intro T hT XX
  obtain ⟨v, st₀, t, T', L, h0, X', hL, e1, e2, ⟨⟨ad, M, hv, had, hR0, hw, hd⟩, hz, hk⟩, st⟩ := hr T hT XX
  cases hv
  rw [h0] at hz hk
  have hq : (X ++ [(q, (Sum.inr (ci, fs0) : va_E))])[X.length]? = some (q, .inr (ci, fs0)) := by rw [List.getElem?_append_right (Nat.le_refl _), Nat.sub_self]; rfl
  have hqA : A q := hD.2 _ _ hq
  have hxa : ∀ x, iA q H.size x → A x := fun x h => by
    rcases h with rfl | h
    · exact hqA
    · exact hA x (Nat.le_trans hS.1 h)
  have hS' : va_S A s.heap T'.heap (locs ++ L) := ⟨Nat.le_trans hS.1 (by rw [e1]; exact hz), fun x h1 h2 => by rw [e1, hk x (Nat.lt_of_lt_of_le h1 hS.1) (fun z => h2 (hxa x z))]; exact hS.2.1 x h1 h2, fun x hx => by
      rcases List.mem_append.mp hx with h | h
      · exact hS.2.2 x h
      · exact hxa _ (hL x h)⟩
  have hXq : ∀ (k : Nat) (x : Nat × va_E), X[k]? = some x → x.1 < H.size ∧ ¬ iA q H.size x.1 := fun k x hx => by
    have hx2 : (X ++ [(q, (Sum.inr (ci, fs0) : va_E))])[k]? = some x := by
      rw [List.getElem?_append_left (List.getElem?_eq_some_iff.mp hx).1]
      exact hx
    have hl := (hP k x hx2).lt
    refine ⟨hl, fun z => ?_⟩
    rcases z with z | z
    · have := hD.1 k X.length x _ hx2 hq z
      have := (List.getElem?_eq_some_iff.mp hx).1
      omega
    · omega
  have hPX : va_P g.2.1 vwCl X T'.heap := fun k x hx => by
    have hx2 : (X ++ [(q, (Sum.inr (ci, fs0) : va_E))])[k]? = some x := by
      rw [List.getElem?_append_left (List.getElem?_eq_some_iff.mp hx).1]
      exact hx
    obtain ⟨h1, h2⟩ := hXq k x hx
    rw [e1]
    exact (hP k x hx2).kept (hk _ h1 h2)
  have hDX : va_D A X := ⟨fun i j x z hi hj hxz => hD.1 i j x z (by rw [List.getElem?_append_left (List.getElem?_eq_some_iff.mp hi).1]; exact hi) (by rw [List.getElem?_append_left (List.getElem?_eq_some_iff.mp hj).1]; exact hj) hxz, fun k x hx => hD.2 k x (by rw [List.getElem?_append_left (List.getElem?_eq_some_iff.mp hx).1]; exact hx)⟩
  obtain ⟨t2, a1, b1⟩ := kk ad M T'.heap (locs ++ L) had hR0 (hPX.app (by rw [e1]; exact hw)) (va_D.app hDX (hd.weaken (fun _ _ _ h => hxa _ h)) (fun i j x z hi hj hxz => (hXq i x hi).2 (by rw [hxz]; exact hd.2 j z hj))) hS' T' rfl X'
  exact ⟨t2, st t2 a1, b1⟩
/-- a constructor's call, on the object that was just made -/
theorem iCall (S : CallFix p m c cc nL s args xGW own) (hM : iOK y bytes maxL rm mc ms av ci fs0 SH R0) (hrm : rm.cells = mc ∧ rm.slots = ms) (hR : rm.frames + 1 ≤ R.frames ∧ 8 + (maxL + 11) + rm.locals ≤ R.locals)
    (hcode : Cond.code y bytes maxL none ∈ mGW) (hlink : Cond.methodLink own idx y ∈ mGW ∨ ∃ host, Cond.methodLinkNest own idx y host ∈ lw_tbl) (hinst : Cond.instanceMethod y ∈ mGW) (hini : Cond.initialized y.cls ∈ mGW) (hn1 : y.name = "<init>")
    (hy : y.cls ≠ "java/lang/invoke/MethodHandle" ∧ y.cls ≠ "java/lang/invoke/VarHandle" ∧ (parseMethodDescriptor y.desc).map (fun d => d.parameters.length) = some av.length)
    (hE : iE g A s s.heap) (hA : ∀ x, s.heap.size ≤ x → A x) (hP : va_P g.2.1 vwCl (X ++ [(q, .inr (ci, fs0))]) H) (hD : va_D A (X ++ [(q, .inr (ci, fs0))])) (hS : va_S A s.heap H locs)
    (hsz : ls.size = nL) (hrest : (rest.map fun v => v.category).sum ≤ 8) (hdg : decode cc pc = .ok (.invokespecial idx, 3)) (hf : cells + mc ≤ R.cells ∧ slots + ms ≤ R.slots)
    (kk : ∀ (ad : Nat → Nat) (M : mM) (H' : Heap) (locs' : List Loc), ad 0 = q → R0 M → va_P g.2.1 vwCl (X ++ mWs ad g.2.2.1 SH M) H' → va_D A (X ++ mWs ad g.2.2.1 SH M) → va_S A s.heap H' locs' → W p l e R s m args below meth c H' locs' (cells + mc) (slots + ms) Q (F0 m (pc + 3) ls rest)) :
    W p l e R s m args below meth c H locs cells slots Q (F0 m pc ls (av.reverse ++ .ref q :: rest)) := by
  obtain ⟨hx, hb, hml, hown, hts0⟩ := id S
  have hts : ∀ w ∈ mGW, w.before args s = true := fun w h => hts0 w (xIn h)
  have hMet := hM l g q H.size
  have hq : (X ++ [(q, (Sum.inr (ci, fs0) : va_E))])[X.length]? = some (q, .inr (ci, fs0)) := by rw [List.getElem?_append_right (Nat.le_refl _), Nat.sub_self]; rfl
  have hxa : ∀ x, iA q H.size x → A x := fun x h => by
    rcases h with rfl | h
    · exact hD.2 _ _ hq
    · exact hA x (Nat.le_trans hS.1 h)
  have hpre : ∀ U : State, U.heap = H → s.WarmedH U.vm → va_Pc (.ref q :: av) (fun U => U.heap.size = H.size ∧ va_P g.2.1 vwCl [(q, .inr (ci, fs0))] U.heap ∧ iE g (iA q H.size) U U.heap) (Value.ref q :: av).toArray U := fun U hU hW => by
    refine ⟨rfl, by rw [hU], by rw [hU]; exact va_P_one (hP _ _ hq), ?_, va_AO.moved hW.alike hE.2.1, hE.2.2.moved hW.alike⟩
    rw [hU]
    exact mEnv.warm hW ((hE.1.kept hS.2.1).narrow hxa)
  rcases hlink with hlink | ⟨host, hlink⟩
  · exact iBack (a := (Value.ref q :: av).toArray) hP hD hS hA (va_runI (p := p) (l := l) (e := e) (R := R) (s := s) (m := m) (args := args) (below := below) (meth := meth) (c := c) (H := H) (locs := locs) (cells := cells) (slots := slots) (own := own) (b := q) (As := av) (rest := rest) (n := av.length) (index := idx) (g := F0 m pc ls (av.reverse ++ .ref q :: rest))
      S hMet ⟨callB_of av.length hts0 (xGoodIn (fun _ h => h) hcode) rfl hrm.1 hrm.2 (hts _ hini) (hts _ hlink) hy hR, hn1, hts _ hinst⟩ ⟨iE_blind, hpre⟩ rfl rfl hsz rfl (by show 2 * 0 + _ ≤ 8; omega) hdg hf) kk
  · exact iBack (a := (Value.ref q :: av).toArray) hP hD hS hA (va_runIN (p := p) (l := l) (e := e) (R := R) (s := s) (m := m) (args := args) (below := below) (meth := meth) (c := c) (H := H) (locs := locs) (cells := cells) (slots := slots) (own := own) (host := host) (b := q) (As := av) (rest := rest) (n := av.length) (index := idx) (g := F0 m pc ls (av.reverse ++ .ref q :: rest))
      S hMet ⟨va_cnB av.length hts0 (xGoodIn (fun _ h => h) hcode) rfl hrm.1 hrm.2 (hE.1.2.1 _ hlink rfl) (hts _ hini) hy hR, hn1, hts _ hinst⟩ ⟨iE_blind, hpre⟩ rfl rfl hsz rfl (by show 2 * 0 + _ ≤ 8; omega) hdg hf) kk
/-- what a constructor's walk stands on -/
def iCx (p : Program) (s : State) (m : MethodId) (args : Array Value) (meth : Method) (c : Code) (cc : ByteArray) (nL : Nat) (own : String) (g : mG) (A : Nat → Prop) : Prop :=
  CallFix p m c cc nL s args xGW own ∧ meth.name = "<init>" ∧ meth.sig.returnType = none ∧ meth.locks = false ∧ iE g A s s.heap ∧ ∀ x, s.heap.size ≤ x → A x
def iSt (g : mG) (A : Nat → Prop) (s : State) (X : va_W) (H : Heap) (locs : List Loc) : Prop := va_P g.2.1 vwCl X H ∧ va_D A X ∧ va_S A s.heap H locs
theorem vcl_get {ci : Nat} {C C' : String} {T T' : u_T} {N N' : Nat} (h : vwCl[ci]? = some (C, T, N)) (h' : vwCl[ci]? = some (C', T', N')) : C = C' ∧ T = T' ∧ N = N' := by
  cases h.symm.trans h'
  exact ⟨rfl, rfl, rfl⟩
/-- a final field of the object itself, which stands first -/
theorem i_putF {h0 k b : Nat} {fs : List Value} {C : String} {T : u_T} {N : Nat} {ty : FieldType} {v : Value} (C0 : iCx p s m args meth c cc nL own g A) (hX : iSt g A s ((h0, .inr (ci, fs)) :: X) H locs) (hF : mFldE own (idx, ci, k, b)) (hc : vwCl[ci]? = some (C, T, N)) (hfin : (T k).2.2.2 = true) (hdecl : (T k).1 = own) (hd : parseFieldDescriptor (T k).2.2.1 = some ty) (hn : narrow ty v = v) (hfit : fits ty v = true) (hl : k < fs.length)
    (hdg : decode cc pc = .ok (.putfield idx, 3)) (kk : ∀ (H1 : Heap) (locs1 : List Loc), iSt g A s ((h0, .inr (ci, fs.set k v)) :: X) H1 locs1 → W p l e R s m args below meth c H1 locs1 cells slots Q (F0 m (pc + 3) ls rest)) : W p l e R s m args below meth c H locs cells slots Q (F0 m pc ls (v :: .ref h0 :: rest)) := by
  obtain ⟨⟨hx, hb, hml, hown, hts0⟩, hin, -, -, hE, hA⟩ := C0
  have hts : ∀ w ∈ mGW, w.before args s = true := fun w h => hts0 w (xIn h)
  obtain ⟨C', T', N', ty0, h1, h2, h3, h4, h5, h6, -⟩ := hF
  obtain ⟨rfl, rfl, rfl⟩ := vcl_get hc h1
  exact va_putF hx hb hts h4 ty0 h5 h6 hown hE.1.1 hX.1 hX.2.1 hX.2.2 0 rfl h1 k h2 (hts _ h3) (fun _ h => h) hfin hin hdecl hd hn hfit hl hdg (fun H1 locs1 a1 a2 a3 => kk H1 locs1 ⟨a1, a2, a3⟩)
/-- .. that is not final -/
theorem i_put {h0 k b : Nat} {fs : List Value} {C : String} {T : u_T} {N : Nat} {ty : FieldType} {v : Value} (C0 : iCx p s m args meth c cc nL own g A) (hX : iSt g A s ((h0, .inr (ci, fs)) :: X) H locs) (hF : mFldE own (idx, ci, k, b)) (hc : vwCl[ci]? = some (C, T, N)) (hfin : (T k).2.2.2 = false) (hd : parseFieldDescriptor (T k).2.2.1 = some ty) (hn : narrow ty v = v) (hfit : fits ty v = true) (hl : k < fs.length)
    (hdg : decode cc pc = .ok (.putfield idx, 3)) (kk : ∀ (H1 : Heap) (locs1 : List Loc), iSt g A s ((h0, .inr (ci, fs.set k v)) :: X) H1 locs1 → W p l e R s m args below meth c H1 locs1 cells slots Q (F0 m (pc + 3) ls rest)) : W p l e R s m args below meth c H locs cells slots Q (F0 m pc ls (v :: .ref h0 :: rest)) := by
  obtain ⟨⟨hx, hb, hml, hown, hts0⟩, hin, -, -, hE, hA⟩ := C0
  have hts : ∀ w ∈ mGW, w.before args s = true := fun w h => hts0 w (xIn h)
  obtain ⟨C', T', N', ty0, h1, h2, h3, h4, h5, h6, -⟩ := hF
  obtain ⟨rfl, rfl, rfl⟩ := vcl_get hc h1
  exact va_put hx hb hts h4 ty0 h5 h6 hown hE.1.1 hX.1 hX.2.1 hX.2.2 0 rfl h1 k h2 (hts _ h3) (fun _ h => h) hfin hd hn hfit hl hdg (fun H1 locs1 a1 a2 a3 => kk H1 locs1 ⟨a1, a2, a3⟩)
/-- a new array of ints or bytes, of zeros -/
theorem i_newa {at' : ArrayType} {ty : FieldType} {t0 : Nat} (C0 : iCx p s m args meth c cc nL own g A) (hX : iSt g A s X H locs) (harr : Cond.arrayClass ty ∈ mGW) (hty : newarray.typeOf at' = ty) (ht : (t0 = 0 ∧ ty = .int) ∨ (t0 = 3 ∧ ty = .byte)) {n : Nat} (hn : n < 65536) (hcells : cells + 1 ≤ R.cells) (hslots : slots + n ≤ R.slots) (hdg : decode cc pc = .ok (.newarray at', 2))
    (kk : ∀ (q : Nat) (H1 : Heap), iSt g A s (X ++ [(q, .inl (g.2.2.1 t0, n, .inl (fun _ => 0)))]) H1 locs → W p l e R s m args below meth c H1 locs (cells + 1) (slots + n) Q (F0 m (pc + 2) ls (.ref q :: rest))) : W p l e R s m args below meth c H locs cells slots Q (F0 m pc ls (.int (nI n) :: rest)) := by
  obtain ⟨⟨hx, hb, hml, hown, hts0⟩, hin, -, -, hE, hA⟩ := C0
  subst hty
  refine va_newa (a0 := (n, .inl (fun _ => 0))) (N' := n) hx hb (hts0 _ (xIn harr)) rfl hE.1.1 hX.1 hX.2.1 hX.2.2 hA (fun cA => ?_) (nI_pos (by omega)) (nI_clamp (by omega)) ?_ hcells hslots hdg (fun q cA H1 hK hP hD hS => ?_)
  · rcases ht with ⟨-, h⟩ | ⟨-, h⟩ <;> rw [h] <;> rfl
  · rcases ht with ⟨-, h⟩ | ⟨-, h⟩ <;> rw [h]
    · show n * 4 ≤ 536870912
      omega
    · show n * 1 ≤ 536870912
      omega
  · have hk := (hK.2 4 (cA, newarray.typeOf at') rfl).2
    have e1 : cA = g.2.2.1 t0 := by
      rcases ht with ⟨rfl, h⟩ | ⟨rfl, h⟩
      · rw [h] at hk
        exact Option.some.inj (hk.symm.trans (hE.1.1.2 0 (g.2.2.1 0, .int) rfl).2)
      · rw [h] at hk
        exact Option.some.inj (hk.symm.trans (hE.1.1.2 3 (g.2.2.1 3, .byte) rfl).2)
    rw [e1] at hP hD
    exact kk q H1 ⟨hP, hD, hS⟩
/-- field := new int[n] -/
theorem i_arr {h0 k b w : Nat} {fs : List Value} {C : String} {T : u_T} {N : Nat} (C0 : iCx p s m args meth c cc nL own g A) (hX : iSt g A s ((h0, .inr (ci, fs)) :: X) H locs) (hl0 : ls[0]? = some (.val (.ref h0))) {n : Nat} (hn : n < 65536)
    (d1 : decode cc pc = .ok (.aload_n 0, 1)) (d2 : decode cc (pc + 1) = .ok (.bipush n, 2) ∧ (Int8.ofInt n).toInt32 = nI n ∧ w = 2 ∨ (∃ i : Fin 8, True) ∧ (∃ z : Int, decode cc (pc + 1) = .ok (.iconst z, 1) ∧ Int32.ofInt z = nI n) ∧ w = 1) (d3 : decode cc (pc + 1 + w) = .ok (.newarray .int, 2)) (d4 : decode cc (pc + 1 + w + 2) = .ok (.putfield idx, 3))
    (hF : mFldE own (idx, ci, k, b)) (hc : vwCl[ci]? = some (C, T, N)) (hfin : (T k).2.2.2 = true) (hdecl : (T k).1 = own) (hd : parseFieldDescriptor (T k).2.2.1 = some (.array .int)) (hl : k < fs.length) (harr : Cond.arrayClass .int ∈ mGW) (hcells : cells + 1 ≤ R.cells) (hslots : slots + n ≤ R.slots)
    (kk : ∀ (q : Nat) (H1 : Heap) (locs1 : List Loc), iSt g A s ((h0, .inr (ci, fs.set k (.ref q))) :: (X ++ [(q, .inl (g.2.2.1 0, n, .inl (fun _ => 0)))])) H1 locs1 → W p l e R s m args below meth c H1 locs1 (cells + 1) (slots + n) Q (F0 m (pc + 1 + w + 5) ls rest)) : W p l e R s m args below meth c H locs cells slots Q (F0 m pc ls rest) := by
  have C1 := id C0
  obtain ⟨⟨hx, hb, hml, hown, hts0⟩, -⟩ := C1
  refine lv_aload_n hx hb d1 rfl hl0 ?_
  have key : W p l e R s m args below meth c H locs cells slots Q (F0 m (pc + 1 + w) ls (.int (nI n) :: .ref h0 :: rest)) := by
    refine i_newa (t0 := 0) C0 hX harr rfl (Or.inl ⟨rfl, rfl⟩) hn hcells hslots d3 (fun q H1 hX1 => ?_)
    exact i_putF (ty := .array .int) (h0 := h0) (ci := ci) (fs := fs) C0 (X := X ++ [(q, (Sum.inl (g.2.2.1 0, n, Sum.inl (fun _ => 0)) : va_E))]) hX1 hF hc hfin hdecl hd rfl rfl hl d4 (fun H2 locs2 hX2 => kk q H2 locs2 hX2)
  rcases d2 with ⟨d2, e2, rfl⟩ | ⟨-, ⟨z, d2, e2⟩, rfl⟩
  · exact lv_bipush hx hb d2 e2 key
  · exact lv_iconst hx hb d2 e2 key
/-- new, dup, the constructor's call -/
theorem iNew {C : String} {T : u_T} {N : Nat} (C0 : iCx p s m args meth c cc nL own g A) (hX : iSt g A s X H locs) (hM : iOK y bytes maxL rm mc ms [] ci fs0 SH R0) (hrm : rm.cells = mc ∧ rm.slots = ms) (hR : rm.frames + 1 ≤ R.frames ∧ 8 + (maxL + 11) + rm.locals ≤ R.locals)
    (hc : vwCl[ci]? = some (C, T, N)) (hws : ∀ w ∈ u_ws C T N, w ∈ mGW) (ty : Nat → FieldType) (hty : ∀ k, k < N → parseFieldDescriptor (T k).2.2.1 = some (ty k)) (hfs : ∀ j, j < N → defaultValue (ty j) = vp_V fs0 j) {idx0 : Nat} (hcl : Cond.classLink own idx0 C ∈ mGW) (hin2 : Cond.instantiable C N ∈ mGW) (hini2 : Cond.initialized C ∈ mGW)
    (hcode : Cond.code y bytes maxL none ∈ mGW) (hlink : Cond.methodLink own idx y ∈ mGW ∨ ∃ host, Cond.methodLinkNest own idx y host ∈ lw_tbl) (hinst : Cond.instanceMethod y ∈ mGW) (hini : Cond.initialized y.cls ∈ mGW) (hn1 : y.name = "<init>")
    (hy : y.cls ≠ "java/lang/invoke/MethodHandle" ∧ y.cls ≠ "java/lang/invoke/VarHandle" ∧ (parseMethodDescriptor y.desc).map (fun d => d.parameters.length) = some 0)
    (hsz : ls.size = nL) (hrest : (rest.map fun v => v.category).sum ≤ 7) (d1 : decode cc pc = .ok (.new idx0, 3)) (d2 : decode cc (pc + 3) = .ok (.dup, 1)) (d3 : decode cc (pc + 4) = .ok (.invokespecial idx, 3)) (hf : cells + 1 + mc ≤ R.cells ∧ slots + N + ms ≤ R.slots)
    (kk : ∀ (ad : Nat → Nat) (M : mM) (H' : Heap) (locs' : List Loc), R0 M → iSt g A s (X ++ mWs ad g.2.2.1 SH M) H' locs' → W p l e R s m args below meth c H' locs' (cells + 1 + mc) (slots + N + ms) Q (F0 m (pc + 7) ls (.ref (ad 0) :: rest))) :
    W p l e R s m args below meth c H locs cells slots Q (F0 m pc ls rest) := by
  have C1 := id C0
  obtain ⟨S, -, -, -, hE, hA⟩ := C1
  obtain ⟨hx, hb, hml, hown, hts0⟩ := id S
  have hts : ∀ w ∈ mGW, w.before args s = true := fun w h => hts0 w (xIn h)
  refine va_new hx hb hts hws ty hty hown (hts _ hcl) (hts _ hin2) (hts _ hini2) hE.1.1 hX.1 hX.2.1 hX.2.2 hA hc hfs (by omega) (by omega) d1 (fun q H1 hP1 hD1 hS1 => ?_)
  refine lv_dup hx hb d2 rfl ?_
  refine iCall (av := []) S hM hrm hR hcode hlink hinst hini hn1 hy hE hA hP1 hD1 hS1 hsz ?_ d3 hf (fun ad M H' locs' had hR0 hP2 hD2 hS2 => ?_)
  · rw [List.map_cons, List.sum_cons]
    show 1 + _ ≤ 8
    omega
  · rw [← had]
    exact kk ad M H' locs' hR0 ⟨hP2, hD2, hS2⟩
/-- field := new C() -/
theorem i_obj {h0 k b : Nat} {fs : List Value} {C Co : String} {T To : u_T} {N No : Nat} {cio idxf : Nat} {ty1 : FieldType} (C0 : iCx p s m args meth c cc nL own g A) (hX : iSt g A s ((h0, .inr (cio, fs)) :: X) H locs) (hl0 : ls[0]? = some (.val (.ref h0))) (hM : iOK y bytes maxL rm mc ms [] ci fs0 SH R0) (hrm : rm.cells = mc ∧ rm.slots = ms) (hR : rm.frames + 1 ≤ R.frames ∧ 8 + (maxL + 11) + rm.locals ≤ R.locals)
    (hc : vwCl[ci]? = some (C, T, N)) (hws : ∀ w ∈ u_ws C T N, w ∈ mGW) (ty : Nat → FieldType) (hty : ∀ k, k < N → parseFieldDescriptor (T k).2.2.1 = some (ty k)) (hfs : ∀ j, j < N → defaultValue (ty j) = vp_V fs0 j) {idx0 : Nat} (hcl : Cond.classLink own idx0 C ∈ mGW) (hin2 : Cond.instantiable C N ∈ mGW) (hini2 : Cond.initialized C ∈ mGW)
    (hcode : Cond.code y bytes maxL none ∈ mGW) (hlink : Cond.methodLink own idx y ∈ mGW ∨ ∃ host, Cond.methodLinkNest own idx y host ∈ lw_tbl) (hinst : Cond.instanceMethod y ∈ mGW) (hini : Cond.initialized y.cls ∈ mGW) (hn1 : y.name = "<init>")
    (hy : y.cls ≠ "java/lang/invoke/MethodHandle" ∧ y.cls ≠ "java/lang/invoke/VarHandle" ∧ (parseMethodDescriptor y.desc).map (fun d => d.parameters.length) = some 0)
    (hF : mFldE own (idxf, cio, k, b)) (hco : vwCl[cio]? = some (Co, To, No)) (hfin : (To k).2.2.2 = true) (hdecl : (To k).1 = own) (hd : parseFieldDescriptor (To k).2.2.1 = some ty1) (hn : ∀ q, narrow ty1 (.ref q) = .ref q) (hfit : ∀ q, fits ty1 (.ref q) = true) (hl : k < fs.length)
    (hsz : ls.size = nL) (d0 : decode cc pc = .ok (.aload_n 0, 1)) (d1 : decode cc (pc + 1) = .ok (.new idx0, 3)) (d2 : decode cc (pc + 1 + 3) = .ok (.dup, 1)) (d3 : decode cc (pc + 1 + 4) = .ok (.invokespecial idx, 3)) (d4 : decode cc (pc + 1 + 7) = .ok (.putfield idxf, 3)) (hf : cells + 1 + mc ≤ R.cells ∧ slots + N + ms ≤ R.slots)
    (kk : ∀ (ad : Nat → Nat) (M : mM) (H' : Heap) (locs' : List Loc), R0 M → iSt g A s ((h0, .inr (cio, fs.set k (.ref (ad 0)))) :: (X ++ mWs ad g.2.2.1 SH M)) H' locs' → W p l e R s m args below meth c H' locs' (cells + 1 + mc) (slots + N + ms) Q (F0 m (pc + 11) ls [])) :
    W p l e R s m args below meth c H locs cells slots Q (F0 m pc ls []) := by
  have C1 := id C0
  obtain ⟨⟨hx, hb, hml, hown, hts0⟩, -⟩ := C1
  refine lv_aload_n hx hb d0 rfl hl0 ?_
  refine iNew C0 hX hM hrm hR hc hws ty hty hfs hcl hin2 hini2 hcode hlink hinst hini hn1 hy hsz (by show 1 + 0 ≤ 7; omega) d1 d2 d3 hf (fun ad M H' locs' hR0 hX2 => ?_)
  exact i_putF (h0 := h0) (ci := cio) (fs := fs) C0 (X := X ++ mWs ad g.2.2.1 SH M) hX2 hF hco hfin hdecl hd (hn _) (hfit _) hl d4 (fun H2 locs2 hX3 => kk ad M H2 locs2 hR0 hX3)
/-- from its entry to its body -/
theorem iOK.of (hcls : plainName y.cls = true) (hn1 : y.name = "<init>") (hlen : ∀ h0 : Nat, (lg_sl (.ref h0 :: av)).length ≤ maxL)
    (body : ∀ {p : Program} {l : Launch} {e : Env} {s : State} {m : MethodId} {args : Array Value} {below : List Frame} {meth : Method} {c : Code} {ls : Array Slot} (g : mG) (h0 : Nat), iCx p s m args meth c bytes maxL y.cls g (iA h0 s.heap.size) → iSt g (iA h0 s.heap.size) s [(h0, .inr (ci, fs0))] s.heap [] → ls.size = maxL → lv_has ls maxL (lv_args 0 (.ref h0 :: av)) →
      W p l e rm s m args below meth c s.heap [] 0 0 (MQ below (fun _ st oc t => (∃ (ad : Nat → Nat) (M : mM), oc = .returned none ∧ ad 0 = h0 ∧ R0 M ∧ va_P g.2.1 vwCl (mWs ad g.2.2.1 SH M) t.heap ∧ va_D (iA h0 s.heap.size) (mWs ad g.2.2.1 SH M)) ∧ va_F (iA h0 s.heap.size) st t) args s mc ms (iA h0 s.heap.size)) (F0 m 0 ls [])) : iOK y bytes maxL rm mc ms av ci fs0 SH R0 := by
  intro l g h0 sz
  refine Met.ofW (cc := bytes) (maxL := maxL) (ret := none) hcls rfl ?_
  intro p e s m args below meth c s₁ Bd hml hv
  obtain ⟨rfl, hsz, hP, hE⟩ := hv
  subst hsz
  have hts := atoms_spec (ws := .code y bytes maxL none :: xGW) Bd.pre
  have hown : s.vm.findClass y.cls = some m.cls := findClass_of_methodNamed Bd.named
  have hin : meth.name = "<init>" := (name_of_methodNamed Bd.named Bd.method).1.trans hn1
  have hl := lv_entry (.ref h0 :: av) (n := maxL) (hlen h0)
  rw [lg_entry_eq]
  generalize (lg_sl (.ref h0 :: av) ++ List.replicate (maxL - (lg_sl (.ref h0 :: av)).length) Slot.unset).toArray = ls at hl ⊢
  refine body g h0 ⟨⟨Bd.exec, Bd.bytes, hml, hown, fun w h => hts w (List.mem_cons_of_mem _ h)⟩, hin, Bd.returns, Bd.notSynchronized, hE, fun x h => Or.inr h⟩ ⟨hP, ⟨fun i j x z hi hj _ => ?_, fun k x hk => ?_⟩, va_S.rf⟩ hl.1 hl
  · have h1 : i < 1 := (List.getElem?_eq_some_iff.mp hi).1
    have h2 : j < 1 := (List.getElem?_eq_some_iff.mp hj).1
    omega
  · have h1 : k < 1 := (List.getElem?_eq_some_iff.mp hk).1
    obtain rfl : k = 0 := by omega
    cases hk
    exact Or.inl rfl
theorem mWs_gd {ad : Nat → Nat} {cy : Nat → ClassId} {M : mM} {k : Nat} (hk : k < SH.length) : (mWs ad cy SH M)[k]? = some (ad k, mEnt ad cy (SH.getD k (0, 0, [])) (M k)) := by
  simp only [mWs, List.getElem?_map, List.getElem?_range hk, Option.map_some]
/-- its end -/
theorem iRet {h0 : Nat} {ad : Nat → Nat} {M : mM} (φ : Nat → Nat) (C0 : iCx p s m args meth c cc nL own g A) (hX : iSt g (iA h0 s.heap.size) s X H locs) (hre : ∀ k, k < SH.length → X[φ k]? = some (ad k, mEnt ad g.2.2.1 (SH.getD k (0, 0, [])) (M k))) (hinj : ∀ i j, i < SH.length → j < SH.length → φ i = φ j → i = j) (had : ad 0 = h0) (hR0 : R0 M) (hdg : decode cc pc = .ok (.return_, 1)) (hcl : cells ≤ mc) (hsl : slots ≤ ms) :
    W p l e R s m args below meth c H locs cells slots (MQ below (fun _ st oc t => (∃ (ad : Nat → Nat) (M : mM), oc = .returned none ∧ ad 0 = h0 ∧ R0 M ∧ va_P g.2.1 vwCl (mWs ad g.2.2.1 SH M) t.heap ∧ va_D (iA h0 s.heap.size) (mWs ad g.2.2.1 SH M)) ∧ va_F (iA h0 s.heap.size) st t) args s mc ms (iA h0 s.heap.size)) (F0 m pc ls []) := by
  obtain ⟨⟨hx, hb, hml, hown, hts0⟩, hin, hr, hlk, hE, hA⟩ := C0
  obtain ⟨hP, hD, hS⟩ := hX
  have hof : ∀ (k : Nat) (q : Nat × va_E), (mWs ad g.2.2.1 SH M)[k]? = some q → X[φ k]? = some q := fun k q hq => by
    have hk := (mWs_at hq).1
    rw [mWs_gd hk] at hq
    rw [hre k hk]
    exact hq
  have hP' := hP.by φ hof
  have hD' := hD.by φ hof (fun i j hi hj => hinj i j (by rw [mWs_len] at hi; exact hi) (by rw [mWs_len] at hj; exact hj))
  refine W.widen hcl hsl (W.vret hx hb hr (fun t ht hW => ⟨⟨ad, M, rfl, had, hR0, by rw [ht]; exact hP', hD'⟩, hS.F ht⟩) hS.2.2 hdg hlk)
/-- Object's constructor -/
theorem iObj0 {h0 : Nat} (C0 : iCx p s m args meth c cc nL own g A) (hl0 : ls[0]? = some (.val (.ref h0))) (hsz : ls.size = nL) (d0 : decode cc pc = .ok (.aload_n 0, 1)) (d1 : decode cc (pc + 1) = .ok (.invokespecial idx, 3)) (hlink : Cond.methodLink own idx objectInit ∈ mGW) (hi : Cond.instanceMethod objectInit ∈ mGW) (hcd : Cond.code objectInit ⟨#[0xb1]⟩ 1 none ∈ mGW) (hfr : 1 ≤ R.frames) (hlo : 12 ≤ R.locals)
    (kk : W p l e R s m args below meth c H locs cells slots Q (F0 m (pc + 4) ls [])) : W p l e R s m args below meth c H locs cells slots Q (F0 m pc ls []) := by
  obtain ⟨⟨hx, hb, hml, hown, hts0⟩, -⟩ := C0
  have hts : ∀ w ∈ mGW, w.before args s = true := fun w h => hts0 w (xIn h)
  refine lv_aload_n hx hb d0 rfl hl0 ?_
  refine W.objInit hx hb hown (hts _ hlink) (hts _ hi) (hts _ hcd) rfl (by rw [hml]; exact hsz) rfl d1 hfr hlo ?_
  exact kk
end INITS
