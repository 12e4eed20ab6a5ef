/-! THE CLAIM OUT OF ONE WALK OF THE LAW'S BODY. Your part is whole_start (and what it stands on); all else here is the same for every law, but numbers. -/
def R_law : String := "TrickHouseLaw"
def lw_P (b : Addr) (xs : List Int32) (args : Array Value) (s : State) : Prop := args = #[.ref b] ∧ s.IntsAt b xs ∧ xs.length ≤ 3584 ∧ (Jvm.Cond.and given_1 narrow_1).before args s = true
def lw_Q (_ : Array Value) (s : State) (o : Outcome) (t : State) : Prop := o = .returned (some (.int 1)) ∧ Framed s o t [] 600000 7302250
def lw_Z (below : List Frame) (a : Array Value) (s : State) : State → Prop := fun t => ∃ o, t.status = .running ∧ Ended t below o ∧ lw_Q a s o t
/-- the law's own end, with 1 on the stack, nothing written that was there before, its room as the claim has it -/
theorem lw_ret {p : Program} {l : Launch} {e : Env} {s : State} {m : MethodId} {below : List Frame} {meth : Method} {c : Code} {b : Nat} (hx : p.tables.exec = Jvm.exec) (hb : c.code = code) (hr : meth.sig.returnType = ret) (hlocks : meth.locks = false) {pc : Nat} {H : Heap} {ls : Array Slot} (hdg : decode code pc = .ok (.ireturn, 1)) : W p l e room_1 s m #[Value.ref b] below meth c H [] 600000 7302250 (lw_Z below #[Value.ref b] s) (F0 m pc ls [.int 1]) := by
  intro T hT X
  obtain ⟨fs, hret, hrun, hended, hW, hframe⟩ := X.leave (v := some (.int 1)) (hlocks := hlocks) (fun h => by rw [hr] at h; cases h)
  have hmeth' : T.vm.method? m = some meth := X.method'
  refine ⟨T.setFrames fs, ?_, .returned (some (.int 1)), hrun, hended, rfl, ⟨_, rfl⟩, hW, hframe⟩
  jvm_step X.here [X.here.top, hx, hb, hdg, hmeth', hr, ret, narrow_b1]
  (try refine ⟨rfl, ?_⟩); (try refine ⟨rfl, ?_⟩)
  first | (intro acts; rw [hret _ acts rfl rfl rfl]) | rw [hret _ _ rfl rfl rfl]
  exact Steps.refl _
/-- what holds at the law's entry: the machine, the code, the tables' words (any of lw_tbl by 'hts w (by decide +kernel)'), the script of L ints xs at the cell b, what the Statement gives of the start (any of its parts by flat_of_before) -/
def lw_At (p : Program) (s : State) (m : MethodId) (meth : Method) (c : Code) (b L : Nat) (xs : Nat → Int32) : Prop :=
  p.tables.exec = Jvm.exec ∧ c.code = code ∧ meth.sig.returnType = ret ∧ c.maxLocals = 4 ∧ s.vm.findClass R_law = some m.cls ∧ (∀ w ∈ lw_tbl, w.before #[Value.ref b] s = true) ∧ va_X b L xs s s.heap ∧ b < s.heap.size ∧ meth.locks = false ∧ (Jvm.Cond.and given_1 narrow_1).before #[Value.ref b] s = true
/-! the pieces of its walk -/
abbrev lwA (s : State) : Nat → Prop := fun q => s.heap.size ≤ q
theorem RpM_fr50 {M M' : mM} {z : aZ} (h : RpM M z) (e : ∀ c, 50 ≤ c → M' c = M c) (hI : zInv z) : RpM M' z := by
  obtain ⟨⟨t1, t2⟩, ⟨l0, l1⟩, ⟨i1, i2⟩, hT, hS⟩ := h
  refine ⟨⟨by rw [e 50 (by decide)]; exact t1, fun j hj => by rw [e 77 (by decide)]; exact t2 j hj⟩, ⟨by rw [e 50 (by decide)]; exact l0, RmL_fr l1 (fun c h1 h2 => e c (by omega))⟩, ⟨by rw [e 50 (by decide)]; exact i1, fun l hl i hi => by
    rw [e 79 (by decide), e 80 (by decide), e 81 (by decide), e 82 (by decide)]
    exact i2 l hl i hi⟩, RmT_fr hT (fun k _ => by rw [e 50 (by decide)]) (fun c h1 h2 => e c (by omega)) hI.T.len, fun k hk => ?_⟩
  rw [e 83 (by decide), e 84 (by decide), e (86 + k) (by omega)]
  exact hS k hk
theorem RpC_fr50 {M M' : mM} {z : aZ} (h : RpC M z) (e : ∀ c, c < 50 → M' c = M c) : RpC M' z := RpC_fr h (fun c _ hc => e c hc)
section LAW
variable {p : Program} {l : Launch} {e : Env} {s : State} {m : MethodId} {below : List Frame} {meth : Method} {c : Code} {Q : State → Prop} {H : Heap} {locs : List Loc} {cells slots : Nat} {pc : Nat} {ls : Array Slot} {rest : List Value} {g : mG} {M : mM} {z z2 : aZ} {b L i : Nat} {xs : Nat → Int32} {X : va_W}
theorem lw_fix (C0 : lw_At p s m meth c b L xs) : CallFix p m c code 4 s #[Value.ref b] xGW RL := by
  obtain ⟨hx, hb, hr, hml, hown, hts, -⟩ := C0
  exact ⟨hx, hb, hml, hown, x_words hts⟩
/-- script[i + j] onto the stack -/
theorem lw_arg {j w q1 q2 : Nat} (C0 : lw_At p s m meth c b L xs) (hX : iSt g (lwA s) s X H locs) (hl : lv_has ls 4 [(3, .int (nI i)), (2, .ref q2), (1, .ref q1), (0, .ref b)]) (hL : L ≤ 3584) (hi : i + 7 ≤ L) (hj : j < 7) (d1 : decode code pc = .ok (.aload_n 0, 1)) (d2 : decode code (pc + 1) = .ok (.iload_n 3, 1)) (d3 : (∃ z : Int, decode code (pc + 1 + 1) = .ok (.iconst z, 1) ∧ Int32.ofInt z = nI j ∧ w = 1) ∨ (∃ z : Int, decode code (pc + 1 + 1) = .ok (.bipush z, 2) ∧ (Int8.ofInt z).toInt32 = nI j ∧ w = 2)) (d4 : decode code (pc + 1 + 1 + w) = .ok (.iadd, 1)) (d5 : decode code (pc + 1 + 1 + w + 1) = .ok (.iaload, 1))
    (kk : W p l e room_1 s m #[Value.ref b] below meth c H locs cells slots Q (F0 m (pc + 1 + 1 + w + 1 + 1) ls (.int (xs (i + j)) :: rest))) : W p l e room_1 s m #[Value.ref b] below meth c H locs cells slots Q (F0 m pc ls rest) := by
  obtain ⟨hx, hb, hr, hml, hown, hts, hXs, hbl, hlocks, hgv⟩ := C0
  refine lv_aload_n hx hb d1 rfl (lv_at hl 3 rfl) ?_
  refine lv_iload_n hx hb d2 rfl (lv_at hl 0 rfl) ?_
  have key : W p l e room_1 s m #[Value.ref b] below meth c H locs cells slots Q (F0 m (pc + 1 + 1 + w) ls (.int (nI j) :: .int (nI i) :: .ref b :: rest)) := by
    refine lv_iadd hx hb d4 ?_
    rw [nI_add]
    refine va_sld hx hb hXs hbl (Nat.not_le.mpr hbl) hX.2.2 (vp_in_nI (by omega) (by omega)) d5 ?_
    rw [nI_clamp (by omega)]
    exact kk
  rcases d3 with ⟨z, d, e, rfl⟩ | ⟨z, d, e, rfl⟩
  · exact lv_iconst hx hb d e key
  · exact lv_bipush hx hb d e key
/-- a call of the class -/
theorem lw_callC {y : MethodName} {bytes : ByteArray} {maxL d k idx : Nat} {F : aZ → List Int32 → Int32 × aZ} {Wd : List Cond} {as : List Int32} (C0 : lw_At p s m meth c b L xs) (hE : iE g (lwA s) s s.heap) (hX : iSt g (lwA s) s (mWs g.1 g.2.2.1 mSH M) H locs) (hC : RpC M z) (hM : RpM M z) (hI : zInv z) (h : xOKr Wd mSH y bytes maxL (some .int) (mRm d) 0 0 (pub k F)) (hWd : ∀ w ∈ Wd, w ∈ xGW) (hd : d ≤ 40) (hm : maxL ≤ 29) (hcls : y.cls = RX7) (hk : as.length = k)
    (hcode : Cond.code y bytes maxL (some .int) ∈ mGW) (hlink : Cond.methodLink RL idx y ∈ mGW) (hinst : Cond.instanceMethod y ∈ mGW) (hsel : Cond.selects y.cls y y ∈ mGW) (hini : Cond.initialized y.cls ∈ mGW) (hy : y.cls ≠ "java/lang/invoke/MethodHandle" ∧ y.cls ≠ "java/lang/invoke/VarHandle" ∧ (parseMethodDescriptor y.desc).map (fun d => d.parameters.length) = some k)
    (hsz : ls.size = 4) (hrest : (rest.map fun v => v.category).sum ≤ 8) (hdg : decode code pc = .ok (.invokevirtual idx, 3)) (hf : cells ≤ 600000 ∧ slots ≤ 7302250)
    (kk : ∀ (M' : mM) (H' : Heap) (locs' : List Loc), RpC M' (F z as).2 → RpM M' z → iSt g (lwA s) s (mWs g.1 g.2.2.1 mSH M') H' locs' → W p l e room_1 s m #[Value.ref b] below meth c H' locs' cells slots Q (F0 m (pc + 3) ls (.int (F z as).1 :: rest))) :
    W p l e room_1 s m #[Value.ref b] below meth c H locs cells slots Q (F0 m pc ls ((as.map Value.int).reverse ++ .ref (g.1 0) :: rest)) := by
  have hb := vOK.x0 h (g := g) (a2 := g.1) (o2 := g.2.2.2.1) (as := .inr (some 0) :: as.map (fun x => (.inl x : mV))) (M := M) (P := fun r M' => r = some (.inl (F z as).1) ∧ RpC M' (F z as).2 ∧ FrC M M') (fun _ _ _ h => h) ⟨(z, as), ⟨rfl, hk, hC, hI⟩, fun v M' h => ⟨by rw [h.1], h.2.1, h.2.2⟩⟩
  have e1 : (Sum.inr (some 0) :: as.map (fun x => (.inl x : mV))).map (mval g.1) = .ref (g.1 0) :: as.map Value.int := by
    rw [List.map_cons, List.map_map]
    rfl
  rw [e1] at hb
  have hrec : ∃ cell : Cell, H[g.1 0]? = some cell ∧ cell.vm.isStatics = false ∧ s.vm.findClass y.cls = some cell.cls := by
    rw [hcls]
    exact va_recv (q := (RX7, TX7, 8)) (ci := 9) (q0 := 0) hE.1.1 hX.1 rfl rfl
  refine vCallV (X := []) (q := g.1 0) (av := as.map Value.int) (lw_fix C0) hE (fun _ h => h) hX hb hWd ⟨rfl, rfl⟩ ⟨by show d + 1 ≤ 2048; omega, by show 8 + (maxL + 11) + 48 * d ≤ 84000; omega⟩ hrec hcode hlink hinst hsel hini (by rw [List.length_map, hk]; exact hy) hsz hrest hdg hf (fun v ws1 H' locs' hPo hX' => ?_)
  obtain ⟨r, M', rfl, ⟨rfl, h1, h2⟩, rfl⟩ := hPo
  exact kk M' H' locs' h1 (RpM_fr50 hM h2 hI) hX'
/-- a call of the reference -/
theorem lw_callM {y : MethodName} {bytes : ByteArray} {maxL d k idx : Nat} {F : aZ → List Int32 → Int32 × aZ} {Wd : List Cond} {as : List Int32} (C0 : lw_At p s m meth c b L xs) (hE : iE g (lwA s) s s.heap) (hX : iSt g (lwA s) s (mWs g.1 g.2.2.1 mSH M) H locs) (hC : RpC M z2) (hM : RpM M z) (hI : zInv z) (h : xOKr Wd mSH y bytes maxL (some .int) (mRm d) 0 0 (pubM k F)) (hWd : ∀ w ∈ Wd, w ∈ xGW) (hd : d ≤ 40) (hm : maxL ≤ 29) (hcls : y.cls = RX8) (hk : as.length = k)
    (hcode : Cond.code y bytes maxL (some .int) ∈ mGW) (hlink : Cond.methodLink RL idx y ∈ mGW) (hinst : Cond.instanceMethod y ∈ mGW) (hsel : Cond.selects y.cls y y ∈ mGW) (hini : Cond.initialized y.cls ∈ mGW) (hy : y.cls ≠ "java/lang/invoke/MethodHandle" ∧ y.cls ≠ "java/lang/invoke/VarHandle" ∧ (parseMethodDescriptor y.desc).map (fun d => d.parameters.length) = some k)
    (hsz : ls.size = 4) (hrest : (rest.map fun v => v.category).sum ≤ 8) (hdg : decode code pc = .ok (.invokevirtual idx, 3)) (hf : cells ≤ 600000 ∧ slots ≤ 7302250)
    (kk : ∀ (M' : mM) (H' : Heap) (locs' : List Loc), RpM M' (F z as).2 → RpC M' z2 → iSt g (lwA s) s (mWs g.1 g.2.2.1 mSH M') H' locs' → W p l e room_1 s m #[Value.ref b] below meth c H' locs' cells slots Q (F0 m (pc + 3) ls (.int (F z as).1 :: rest))) :
    W p l e room_1 s m #[Value.ref b] below meth c H locs cells slots Q (F0 m pc ls ((as.map Value.int).reverse ++ .ref (g.1 50) :: rest)) := by
  have hb := vOK.x0 h (g := g) (a2 := g.1) (o2 := g.2.2.2.1) (as := .inr (some 50) :: as.map (fun x => (.inl x : mV))) (M := M) (P := fun r M' => r = some (.inl (F z as).1) ∧ RpM M' (F z as).2 ∧ FrM M M') (fun _ _ _ h => h) ⟨(z, as), ⟨rfl, hk, hM, hI⟩, fun v M' h => ⟨by rw [h.1], h.2.1, h.2.2⟩⟩
  have e1 : (Sum.inr (some 50) :: as.map (fun x => (.inl x : mV))).map (mval g.1) = .ref (g.1 50) :: as.map Value.int := by
    rw [List.map_cons, List.map_map]
    rfl
  rw [e1] at hb
  have hrec : ∃ cell : Cell, H[g.1 50]? = some cell ∧ cell.vm.isStatics = false ∧ s.vm.findClass y.cls = some cell.cls := by
    rw [hcls]
    exact va_recv (q := (RX8, TX8, 47)) (ci := 10) (q0 := 50) hE.1.1 hX.1 rfl rfl
  refine vCallV (X := []) (q := g.1 50) (av := as.map Value.int) (lw_fix C0) hE (fun _ h => h) hX hb hWd ⟨rfl, rfl⟩ ⟨by show d + 1 ≤ 2048; omega, by show 8 + (maxL + 11) + 48 * d ≤ 84000; omega⟩ hrec hcode hlink hinst hsel hini (by rw [List.length_map, hk]; exact hy) hsz hrest hdg hf (fun v ws1 H' locs' hPo hX' => ?_)
  obtain ⟨r, M', rfl, ⟨rfl, h1, h2⟩, rfl⟩ := hPo
  exact kk M' H' locs' h1 (RpC_fr50 hC h2) hX'
/-- the reference's print, which makes texts -/
theorem lw_callP {idx : Nat} {y k : Int32} (C0 : lw_At p s m meth c b L xs) (hE : iE g (lwA s) s s.heap) (hX : iSt g (lwA s) s (mWs g.1 g.2.2.1 mSH M) H locs) (hM : RpM M z) (hI : zInv z) (hlink : Cond.methodLink RL idx yX8_print ∈ mGW)
    (hsz : ls.size = 4) (hrest : (rest.map fun v => v.category).sum ≤ 8) (hdg : decode code pc = .ok (.invokevirtual idx, 3)) (hf : cells + 12 ≤ 600000 ∧ slots + 120 ≤ 7302250)
    (kk : ∀ (H' : Heap) (locs' : List Loc), iSt g (lwA s) s (mWs g.1 g.2.2.1 mSH M) H' locs' → W p l e room_1 s m #[Value.ref b] below meth c H' locs' (cells + 12) (slots + 120) Q (F0 m (pc + 3) ls (.int (F_print z [y, k]).1 :: rest))) :
    W p l e room_1 s m #[Value.ref b] below meth c H locs cells slots Q (F0 m pc ls (.int k :: .int y :: .ref (g.1 50) :: rest)) := by
  refine vCallV (X := []) (q := g.1 50) (av := [.int y, .int k]) (lw_fix C0) hE (fun _ h => h) hX (v_pr hM hI) (fun _ h => h) ⟨rfl, rfl⟩ ⟨Nat.le_of_ble_eq_true rfl, Nat.le_of_ble_eq_true rfl⟩ (va_recv (q := (RX8, TX8, 47)) (ci := 10) (q0 := 50) hE.1.1 hX.1 rfl rfl) wc_X8_print hlink wi_X8_print wl_X8_print wn_RX8 wd_X8_print hsz hrest hdg hf (fun v ws1 H' locs' hPo hX' => ?_)
  obtain ⟨rfl, rfl⟩ := hPo
  exact kk H' locs' hX'
/-- the loop's next turn, from its head on -/
def lwK (p : Program) (l : Launch) (e : Env) (s : State) (m : MethodId) (below : List Frame) (meth : Method) (c : Code) (Q : State → Prop) (g : mG) (b i cells slots : Nat) : Prop := ∀ (z' : aZ) (M' : mM) (H' : Heap) (locs' : List Loc) (ls' : Array Slot), RpC M' z' → RpM M' z' → zInv z' → iSt g (lwA s) s (mWs g.1 g.2.2.1 mSH M') H' locs' → lv_has ls' 4 [(3, .int (nI (i + 7))), (2, .ref (g.1 50)), (1, .ref (g.1 0)), (0, .ref b)] → W p l e room_1 s m #[Value.ref b] below meth c H' locs' cells slots Q (F0 m 18 ls' [])
theorem lw_tail {c2 s2 : Nat} (C0 : lw_At p s m meth c b L xs) (hX : iSt g (lwA s) s (mWs g.1 g.2.2.1 mSH M) H locs) (hC : RpC M z) (hM : RpM M z) (hI : zInv z) (hl : lv_has ls 4 [(3, .int (nI i)), (2, .ref (g.1 50)), (1, .ref (g.1 0)), (0, .ref b)]) (hc : cells ≤ c2) (hs : slots ≤ s2) (ih : lwK p l e s m below meth c Q g b i c2 s2) : W p l e room_1 s m #[Value.ref b] below meth c H locs cells slots Q (F0 m 982 ls []) := by
  obtain ⟨hx, hb, hr, hml, hown, hts, hXs, hbl, hlocks, hgv⟩ := C0
  refine lv_iinc (lv' := [(3, .int (nI (i + 7))), (2, .ref (g.1 50)), (1, .ref (g.1 0)), (0, .ref b)]) hx hb (by decide +kernel : decode code 982 = .ok (.iinc 3 7, 3)) hl (k := 0) rfl (nI_add i 7) (by decide) rfl (fun ls hl => ?_)
  refine lv_goto (tgt := 18) hx hb (by decide +kernel : decode code 985 = .ok (.goto (-967), 3)) (by decide) ?_
  exact W.widen hc hs (ih z M H locs ls hC hM hI hX hl)
theorem lw_7 {L i : Nat} (hL : L ≤ 3584) (hi : i ≤ 3584) : nI L - nI 7 < nI i ↔ L < i + 7 := by
  rw [fa_lt, Int32.toInt_sub, nI_toInt (by omega), nI_toInt (by omega), nI_toInt (by omega), Int.bmod_eq_of_le (by omega) (by omega)]
  omega
/-- the loop's head -/
theorem lw_head (C0 : lw_At p s m meth c b L xs) (hX : iSt g (lwA s) s (mWs g.1 g.2.2.1 mSH M) H locs) (hl : lv_has ls 4 [(3, .int (nI i)), (2, .ref (g.1 50)), (1, .ref (g.1 0)), (0, .ref b)]) (hL : L ≤ 3584) (hi : i ≤ 3584) (hc : cells ≤ 600000) (hs : slots ≤ 7302250)
    (kk : i + 7 ≤ L → W p l e room_1 s m #[Value.ref b] below meth c H locs cells slots (lw_Z below #[Value.ref b] s) (F0 m 33 ls [.int (xs i &&& nI 31)])) : W p l e room_1 s m #[Value.ref b] below meth c H locs cells slots (lw_Z below #[Value.ref b] s) (F0 m 18 ls []) := by
  obtain ⟨hx, hb, hr, hml, hown, hts, hXs, hbl, hlocks, hgv⟩ := C0
  refine lv_iload_n hx hb (by decide +kernel : decode code 18 = .ok (.iload_n 3, 1)) rfl (lv_at hl 0 rfl) ?_
  refine lv_aload_n hx hb (by decide +kernel : decode code 19 = .ok (.aload_n 0, 1)) rfl (lv_at hl 3 rfl) ?_
  refine va_slen hx hb hXs hbl (Nat.not_le.mpr hbl) hX.2.2 (by decide +kernel : decode code 20 = .ok (.arraylength, 1)) ?_
  refine lv_bipush (v := nI 7) hx hb (by decide +kernel : decode code 21 = .ok (.bipush 7, 2)) (by decide) ?_
  refine lv_isub hx hb (by decide +kernel : decode code 23 = .ok (.isub, 1)) ?_
  refine lv_icmp_gt (tgt := 988) hx hb (by decide +kernel : decode code 24 = .ok (.if_icmp .gt 964, 3)) (by decide) (fun h => ?_) (fun h => ?_)
  · refine lv_iconst (v := 1) hx hb (by decide +kernel : decode code 988 = .ok (.iconst 1, 1)) (by decide) ?_
    refine va_forget (fun q hq => hX.2.2.2.2 q hq) ?_
    refine W.widen (k := 600000) (n := 7302250) hc hs ?_
    exact lw_ret hx hb hr hlocks (by decide +kernel : decode code 989 = .ok (.ireturn, 1))
  · have hi7 : i + 7 ≤ L := by
      rcases Nat.lt_or_ge L (i + 7) with q | q
      · exact absurd ((lw_7 hL hi).mpr q) h
      · exact q
    refine lv_aload_n hx hb (by decide +kernel : decode code 27 = .ok (.aload_n 0, 1)) rfl (lv_at hl 3 rfl) ?_
    refine lv_iload_n hx hb (by decide +kernel : decode code 28 = .ok (.iload_n 3, 1)) rfl (lv_at hl 0 rfl) ?_
    refine va_sld hx hb hXs hbl (Nat.not_le.mpr hbl) hX.2.2 (vp_in_nI (by omega) (by omega)) (by decide +kernel : decode code 29 = .ok (.iaload, 1)) ?_
    rw [nI_clamp (by omega)]
    refine lv_bipush (v := nI 31) hx hb (by decide +kernel : decode code 30 = .ok (.bipush 31, 2)) (by decide) ?_
    refine lv_iand hx hb (by decide +kernel : decode code 32 = .ok (.iand, 1)) ?_
    exact kk hi7
end LAW
