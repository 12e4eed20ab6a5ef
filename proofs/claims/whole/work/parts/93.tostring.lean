/-! ===== A STRINGBUILDER'S toString ===== -/
theorem nI_neq {a b : Nat} (ha : a < 2 ^ 31) (hb : b < 2 ^ 31) (h : a ≠ b) : nI a ≠ nI b := fun e => by
  have := congrArg Int32.toNatClampNeg e
  rw [nI_clamp ha, nI_clamp hb] at this
  exact h this
theorem v_newa {p : Program} {l : Launch} {e : Env} {R : Room} {s : State} {m : MethodId} {args : Array Value} {below : List Frame} {meth : Method} {c : Code} {Q : State → Prop} {H : Heap} {locs : List Loc} {cells slots : Nat} {cc : ByteArray} {pc nL : Nat} {ls : Array Slot} {rest : List Value} {A : Nat → Prop} {own : String} {ret : Option FieldType} {g : mG} {X : va_W}
    (C0 : vCx p s m args meth c cc nL own ret g A) (hX : iSt g A s X H locs) {n : Nat} (hn : n < 65536) (hcells : cells + 1 ≤ R.cells) (hslots : slots + n ≤ R.slots) (hdg : decode cc pc = .ok (.newarray .byte, 2))
    (kk : ∀ (q : Nat) (H1 : Heap), iSt g A s (X ++ [(q, .inl (g.2.2.1 3, n, .inl (fun _ => 0)))]) H1 locs → W p l e R s m args below meth c H1 locs (cells + 1) (slots + n) Q (F0 m (pc + 2) ls (.ref q :: rest))) : W p l e R s m args below meth c H locs cells slots Q (F0 m pc ls (.int (nI n) :: rest)) := by
  obtain ⟨⟨hx, hb, hml, hown, hts0⟩, -, -, hE, hA⟩ := C0
  refine va_newa (a0 := (n, .inl (fun _ => 0))) (N' := n) hx hb (hts0 _ (xIn wa_byte)) (atype := .byte) (ty := .byte) rfl hE.1.1 hX.1 hX.2.1 hX.2.2 hA (fun cA => rfl) (nI_pos (by omega)) (nI_clamp (by omega)) (by show n * 1 ≤ 536870912; omega) hcells hslots hdg (fun q cA H1 hK hP hD hS => ?_)
  have hk := (hK.2 4 (cA, .byte) rfl).2
  have e1 : cA = g.2.2.1 3 := Option.some.inj (hk.symm.trans (hE.1.1.2 3 (g.2.2.1 3, .byte) rfl).2)
  rw [e1] at hP hD
  exact kk q H1 ⟨hP, hD, hS⟩
set_option maxHeartbeats 4000000 in
theorem v_chk {g : mG} {x y : Int32} (h : x ≤ y) : vOK xGW yJ7_checkLength_df160 cJ7_checkLength_df160 2 (none) ({ frames := 1, cells := 0, slots := 0, locals := 48 } : Room) 0 0 g [.int x, .int y] [] (fun v ws1 => v = none ∧ ws1 = []) := by
  refine vOK.of (by decide) (Nat.le_of_ble_eq_true rfl) ?_
  intro p l e s m args below meth c ls C0 hin hX hsz hl
  refine lv_iload_n C0.1.1 C0.1.2.1 (by decide +kernel : decode cJ7_checkLength_df160 0 = .ok (.iload_n 1, 1)) rfl (lv_at hl 1 rfl) ?_
  refine lv_iload_n C0.1.1 C0.1.2.1 (by decide +kernel : decode cJ7_checkLength_df160 1 = .ok (.iload_n 0, 1)) rfl (lv_at hl 0 rfl) ?_
  refine lv_icmp_ge (tgt := 37) C0.1.1 C0.1.2.1 (by decide +kernel : decode cJ7_checkLength_df160 2 = .ok (.if_icmp .ge 35, 3)) (by decide) (fun _ => ?_) (fun k => absurd h k)
  exact vRetV C0 hX ⟨rfl, rfl⟩ (by decide +kernel : decode cJ7_checkLength_df160 37 = .ok (.return_, 1)) (by decide) (by decide)

set_option maxHeartbeats 4000000 in
theorem v_corB {g : mG} {a L n : Nat} {f : Nat → Int32} (hn : n ≤ L) (h16 : n ≤ 16) (hL : L < 65536) (hf : ∀ j, j < n → fits .byte (.int (f j)) = true) : vOK xGW yJ7_copyOfRangeByte_39247 cJ7_copyOfRangeByte_39247 5 (some (.array .byte)) ({ frames := 2, cells := 1, slots := 16, locals := 96 } : Room) 1 16 g [.ref a, .int 0, .int (nI n)] [(a, .inl (g.2.2.1 3, L, .inl f))] (fun v ws1 => ∃ (q : Nat) (f' : Nat → Int32), v = some (.ref q) ∧ ws1 = [(a, .inl (g.2.2.1 3, L, .inl f)), (q, .inl (g.2.2.1 3, n, .inl f'))] ∧ ∀ j, j < n → f' j = f j) := by
  refine vOK.of (by decide) (Nat.le_of_ble_eq_true rfl) ?_
  intro p l e s m args below meth c ls C0 hin hX hsz hl
  refine lv_iload_n C0.1.1 C0.1.2.1 (by decide +kernel : decode cJ7_copyOfRangeByte_39247 0 = .ok (.iload_n 1, 1)) rfl (lv_at hl 1 rfl) ?_
  refine lv_iload_n C0.1.1 C0.1.2.1 (by decide +kernel : decode cJ7_copyOfRangeByte_39247 1 = .ok (.iload_n 2, 1)) rfl (lv_at hl 2 rfl) ?_
  refine vCallS (X := [(a, .inl (g.2.2.1 3, L, .inl f))]) (ws0 := []) (av := [.int 0, .int (nI n)]) (rest := []) C0.1 C0.2.2.2.1 C0.2.2.2.2 hX (v_chk (nI_le (Nat.zero_le n) (by omega))) (fun _ h => h) ⟨rfl, rfl⟩ ⟨Nat.le_of_ble_eq_true rfl, Nat.le_of_ble_eq_true rfl⟩ wc_J7_checkLength_df160 wk_RJ7_343 wt_J7_checkLength_df160 wn_RJ7 wd_J7_checkLength_df160 hl.1 (by decide) (by decide +kernel : decode cJ7_copyOfRangeByte_39247 2 = .ok (.invokestatic 343, 3)) ⟨Nat.le_of_ble_eq_true rfl, Nat.le_of_ble_eq_true rfl⟩ (fun v ws1 H locs hPo hX => ?_)
  obtain ⟨rfl, rfl⟩ := hPo
  refine lv_iload_n C0.1.1 C0.1.2.1 (by decide +kernel : decode cJ7_copyOfRangeByte_39247 5 = .ok (.iload_n 2, 1)) rfl (lv_at hl 2 rfl) ?_
  refine lv_iload_n C0.1.1 C0.1.2.1 (by decide +kernel : decode cJ7_copyOfRangeByte_39247 6 = .ok (.iload_n 1, 1)) rfl (lv_at hl 1 rfl) ?_
  refine lv_isub C0.1.1 C0.1.2.1 (by decide +kernel : decode cJ7_copyOfRangeByte_39247 7 = .ok (.isub, 1)) ?_
  rw [Int32.sub_zero]
  refine lv_istore_n (lv' := [(3, .int (nI n)), (0, .ref a), (1, .int 0), (2, .int (nI n))]) C0.1.1 C0.1.2.1 (by decide +kernel : decode cJ7_copyOfRangeByte_39247 8 = .ok (.istore_n 3, 1)) rfl hl (by decide) rfl (fun ls hl => ?_)
  refine lv_iload_n C0.1.1 C0.1.2.1 (by decide +kernel : decode cJ7_copyOfRangeByte_39247 9 = .ok (.iload_n 3, 1)) rfl (lv_at hl 0 rfl) ?_
  refine v_newa (n := n) C0 hX (by omega) (Nat.le_of_ble_eq_true rfl) (by show 0 + 0 + n ≤ 16; omega) (by decide +kernel : decode cJ7_copyOfRangeByte_39247 10 = .ok (.newarray .byte, 2)) (fun q H hX => ?_)
  refine lv_astore (lv' := [(4, .ref q), (3, .int (nI n)), (0, .ref a), (1, .int 0), (2, .int (nI n))]) C0.1.1 C0.1.2.1 (by decide +kernel : decode cJ7_copyOfRangeByte_39247 12 = .ok (.astore 4, 2)) hl (by decide) rfl (fun ls hl => ?_)
  refine lv_aload_n C0.1.1 C0.1.2.1 (by decide +kernel : decode cJ7_copyOfRangeByte_39247 14 = .ok (.aload_n 0, 1)) rfl (lv_at hl 2 rfl) ?_
  refine lv_iload_n C0.1.1 C0.1.2.1 (by decide +kernel : decode cJ7_copyOfRangeByte_39247 15 = .ok (.iload_n 1, 1)) rfl (lv_at hl 3 rfl) ?_
  refine lv_aload C0.1.1 C0.1.2.1 (by decide +kernel : decode cJ7_copyOfRangeByte_39247 16 = .ok (.aload 4, 2)) (lv_at hl 0 rfl) ?_
  refine lv_iconst (v := 0) C0.1.1 C0.1.2.1 (by decide +kernel : decode cJ7_copyOfRangeByte_39247 18 = .ok (.iconst 0, 1)) (by decide) ?_
  refine lv_aload_n C0.1.1 C0.1.2.1 (by decide +kernel : decode cJ7_copyOfRangeByte_39247 19 = .ok (.aload_n 0, 1)) rfl (lv_at hl 2 rfl) ?_
  refine va_alen (v := nI L) C0.1.1 C0.1.2.1 C0.2.2.2.1.1.1 hX.1 0 3 rfl rfl rfl (by decide +kernel : decode cJ7_copyOfRangeByte_39247 20 = .ok (.arraylength, 1)) ?_
  refine lv_iload_n C0.1.1 C0.1.2.1 (by decide +kernel : decode cJ7_copyOfRangeByte_39247 21 = .ok (.iload_n 1, 1)) rfl (lv_at hl 3 rfl) ?_
  refine lv_isub C0.1.1 C0.1.2.1 (by decide +kernel : decode cJ7_copyOfRangeByte_39247 22 = .ok (.isub, 1)) ?_
  rw [Int32.sub_zero]
  refine lv_iload_n C0.1.1 C0.1.2.1 (by decide +kernel : decode cJ7_copyOfRangeByte_39247 23 = .ok (.iload_n 3, 1)) rfl (lv_at hl 1 rfl) ?_
  refine va_mmin C0.1.1 C0.1.2.1 (C0.1.2.2.1.trans hl.1.symm) C0.1.2.2.2.1 (C0.1.2.2.2.2 _ (xIn wk_RJ7_304)) (C0.1.2.2.2.2 _ (xIn wt_J9_min_7cf53)) (C0.1.2.2.2.2 _ (xIn wn_RJ9)) (C0.1.2.2.2.2 _ (xIn wc_J9_min_7cf53)) (Nat.le_of_ble_eq_true rfl) (Nat.le_of_ble_eq_true rfl) (Nat.le_of_ble_eq_true rfl) (by show 0 + 0 + n ≤ 16; omega) (by decide +kernel : decode cJ7_copyOfRangeByte_39247 24 = .ok (.invokestatic 304, 3)) ?_
  have e : (if nI n < nI L then nI n else nI L) = nI n := by
    by_cases h : n = L
    · rw [h, ite_self]
    · rw [if_pos (nI_lt (by omega) (by omega))]
  rw [e]
  refine va_copyi C0.1.1 C0.1.2.1 (C0.1.2.2.1.trans hl.1.symm) C0.1.2.2.2.1 (C0.1.2.2.2.2 _ (xIn (mIn 720 (by decide +kernel) rfl))) (C0.1.2.2.2.2 _ (xIn wnat_copy)) (C0.1.2.2.2.2 _ (xIn wst_copy)) (C0.1.2.2.2.2 _ (xIn wn_RJ10)) C0.2.2.2.1.1.1 hX.1 hX.2.1 hX.2.2 0 1 3 3 rfl rfl rfl rfl rfl (by decide) (by decide) (nI_pos (by omega)) ?_ ?_ (fun j hj => ?_) (Nat.le_of_ble_eq_true rfl) (by decide +kernel) (by decide +kernel : decode cJ7_copyOfRangeByte_39247 27 = .ok (.invokestatic 150, 3)) (fun H locs hP hD hS => ?_)
  · rw [nI_clamp (by omega)]
    show 0 + n ≤ L
    omega
  · rw [nI_clamp (by omega)]
    show 0 + n ≤ n
    omega
  · rw [nI_clamp (by omega)] at hj
    show fits .byte (.int (f (0 + j))) = true
    rw [Nat.zero_add]
    exact hf j hj
  rw [nI_clamp (n := n) (by omega)] at hP hD
  refine lv_aload C0.1.1 C0.1.2.1 (by decide +kernel : decode cJ7_copyOfRangeByte_39247 30 = .ok (.aload 4, 2)) (lv_at hl 0 rfl) ?_
  refine vRetA (rt := .array .byte) (X := [(a, .inl (g.2.2.1 3, L, .inl f)), (q, .inl (g.2.2.1 3, n, .inl (va_cpy f (fun _ => 0) 0 0 n)))]) C0 (Or.inr ⟨_, rfl⟩) ⟨hP, hD, hS⟩ ⟨q, _, rfl, rfl, fun j hj => ?_⟩ (by decide +kernel : decode cJ7_copyOfRangeByte_39247 32 = .ok (.areturn, 1)) (by decide) (by omega)
  rw [pk_cpy_in (Nat.zero_le j) (by omega), Nat.zero_add, Nat.sub_zero]

set_option maxHeartbeats 4000000 in
theorem v_cor {g : mG} {a L n : Nat} {f : Nat → Int32} (hn : n < L) (h16 : n ≤ 16) (hL : L < 65536) (hf : ∀ j, j < n → fits .byte (.int (f j)) = true) : vOK xGW yJ7_copyOfRange_39247 cJ7_copyOfRange_39247 3 (some (.array .byte)) ({ frames := 3, cells := 1, slots := 16, locals := 144 } : Room) 1 16 g [.ref a, .int 0, .int (nI n)] [(a, .inl (g.2.2.1 3, L, .inl f))] (fun v ws1 => ∃ (q : Nat) (f' : Nat → Int32), v = some (.ref q) ∧ ws1 = [(a, .inl (g.2.2.1 3, L, .inl f)), (q, .inl (g.2.2.1 3, n, .inl f'))] ∧ ∀ j, j < n → f' j = f j) := by
  refine vOK.of (by decide) (Nat.le_of_ble_eq_true rfl) ?_
  intro p l e s m args below meth c ls C0 hin hX hsz hl
  refine lv_iload_n C0.1.1 C0.1.2.1 (by decide +kernel : decode cJ7_copyOfRange_39247 0 = .ok (.iload_n 1, 1)) rfl (lv_at hl 1 rfl) ?_
  refine lv_if_ne (tgt := 10) C0.1.1 C0.1.2.1 (by decide +kernel : decode cJ7_copyOfRange_39247 1 = .ok (.ifCond .ne 9, 3)) (by decide) (fun h => absurd rfl h) (fun _ => ?_)
  refine lv_iload_n C0.1.1 C0.1.2.1 (by decide +kernel : decode cJ7_copyOfRange_39247 4 = .ok (.iload_n 2, 1)) rfl (lv_at hl 2 rfl) ?_
  refine lv_aload_n C0.1.1 C0.1.2.1 (by decide +kernel : decode cJ7_copyOfRange_39247 5 = .ok (.aload_n 0, 1)) rfl (lv_at hl 0 rfl) ?_
  refine va_alen (v := nI L) C0.1.1 C0.1.2.1 C0.2.2.2.1.1.1 hX.1 0 3 rfl rfl rfl (by decide +kernel : decode cJ7_copyOfRange_39247 6 = .ok (.arraylength, 1)) ?_
  refine lv_icmp_eq (tgt := 17) C0.1.1 C0.1.2.1 (by decide +kernel : decode cJ7_copyOfRange_39247 7 = .ok (.if_icmp .eq 10, 3)) (by decide) (fun h => absurd h (nI_neq (by omega) (by omega) (by omega))) (fun _ => ?_)
  refine lv_aload_n C0.1.1 C0.1.2.1 (by decide +kernel : decode cJ7_copyOfRange_39247 10 = .ok (.aload_n 0, 1)) rfl (lv_at hl 0 rfl) ?_
  refine lv_iload_n C0.1.1 C0.1.2.1 (by decide +kernel : decode cJ7_copyOfRange_39247 11 = .ok (.iload_n 1, 1)) rfl (lv_at hl 1 rfl) ?_
  refine lv_iload_n C0.1.1 C0.1.2.1 (by decide +kernel : decode cJ7_copyOfRange_39247 12 = .ok (.iload_n 2, 1)) rfl (lv_at hl 2 rfl) ?_
  refine vCallS (X := []) (av := [.ref a, .int 0, .int (nI n)]) (rest := []) C0.1 C0.2.2.2.1 C0.2.2.2.2 hX (v_corB (by omega) h16 hL hf) (fun _ h => h) ⟨rfl, rfl⟩ ⟨Nat.le_of_ble_eq_true rfl, Nat.le_of_ble_eq_true rfl⟩ wc_J7_copyOfRangeByte_39247 wk_RJ7_339 wt_J7_copyOfRangeByte_39247 wn_RJ7 wd_J7_copyOfRangeByte_39247 hl.1 (by decide) (by decide +kernel : decode cJ7_copyOfRange_39247 13 = .ok (.invokestatic 339, 3)) ⟨Nat.le_of_ble_eq_true rfl, Nat.le_of_ble_eq_true rfl⟩ (fun v ws1 H locs hPo hX => ?_)
  obtain ⟨q, f', rfl, rfl, hf'⟩ := hPo
  exact vRetA (rt := .array .byte) C0 (Or.inr ⟨_, rfl⟩) hX ⟨q, f', rfl, rfl, hf'⟩ (by decide +kernel : decode cJ7_copyOfRange_39247 16 = .ok (.areturn, 1)) (by decide) (by decide)

theorem v_get {p : Program} {l : Launch} {e : Env} {R : Room} {s : State} {m : MethodId} {args : Array Value} {below : List Frame} {meth : Method} {c : Code} {Q : State → Prop} {H : Heap} {locs : List Loc} {cells slots : Nat} {cc : ByteArray} {pc nL : Nat} {ls : Array Slot} {rest : List Value} {A : Nat → Prop} {own : String} {ret : Option FieldType} {g : mG} {X : va_W} {ci idx : Nat}
    {h0 k b : Nat} {fs : List Value} {v : Value} (C0 : vCx p s m args meth c cc nL own ret g A) (hX : iSt g A s X H locs) (q0 : Nat) (he : X[q0]? = some (h0, .inr (ci, fs))) (hF : mFldE own (idx, ci, k, b)) (hv : fs[k]? = some v)
    (hdg : decode cc pc = .ok (.getfield idx, 3)) (kk : W p l e R s m args below meth c H locs cells slots Q (F0 m (pc + 3) ls (v :: rest))) : W p l e R s m args below meth c H locs cells slots Q (F0 m pc ls (.ref h0 :: rest)) := by
  obtain ⟨⟨hx, hb, hml, hown, hts0⟩, -, -, hE, hA⟩ := C0
  have hts : ∀ w ∈ mGW, w.before args s = true := fun w h => hts0 w (xIn h)
  obtain ⟨C', T', N', ty0, h1, h2, h3, h4, h5, h6, -⟩ := hF
  exact va_get hx hb hts h4 hown hE.1.1 hX.1 q0 he h1 k h2 (hts _ h3) (fun _ h => h) hv hdg kk
set_option maxHeartbeats 4000000 in
theorem v_gv {g : mG} {a2 : Nat → Nat} {M : mM}  : vOK xGW yJ5_getValue_6d5f1 cJ5_getValue_6d5f1 1 (some (.array .byte)) ({ frames := 1, cells := 0, slots := 0, locals := 48 } : Room) 0 0 g [.ref (a2 0)] (mWs a2 g.2.2.1 sSH M) (fun v ws1 => v = some (.ref (a2 1)) ∧ ws1 = mWs a2 g.2.2.1 sSH M) := by
  refine vOK.of (by decide) (Nat.le_of_ble_eq_true rfl) ?_
  intro p l e s m args below meth c ls C0 hin hX hsz hl
  refine lv_aload_n C0.1.1 C0.1.2.1 (by decide +kernel : decode cJ5_getValue_6d5f1 0 = .ok (.aload_n 0, 1)) rfl (lv_at hl 0 rfl) ?_
  refine v_get C0 hX 0 rfl fe_RJ5_15 rfl (by decide +kernel : decode cJ5_getValue_6d5f1 1 = .ok (.getfield 15, 3)) ?_
  exact vRetA (rt := .array .byte) C0 (Or.inr ⟨_, rfl⟩) hX ⟨rfl, rfl⟩ (by decide +kernel : decode cJ5_getValue_6d5f1 4 = .ok (.areturn, 1)) (by decide) (by decide)

theorem v_new {p : Program} {l : Launch} {e : Env} {R : Room} {s : State} {m : MethodId} {args : Array Value} {below : List Frame} {meth : Method} {c : Code} {Q : State → Prop} {H : Heap} {locs : List Loc} {cells slots : Nat} {cc : ByteArray} {pc nL : Nat} {ls : Array Slot} {rest : List Value} {A : Nat → Prop} {own : String} {ret : Option FieldType} {g : mG} {X : va_W} {ci : Nat} {C : String} {T : u_T} {N : Nat} {fs0 : List Value}
    (C0 : vCx p s m args meth c cc nL own ret g A) (hX : iSt g A s X H locs) (hc : vwCl[ci]? = some (C, T, N)) (hws : ∀ w ∈ u_ws C T N, w ∈ mGW) (ty : Nat → FieldType) (hty : ∀ k, k < N → parseFieldDescriptor (T k).2.2.1 = some (ty k)) (hfs : ∀ j, j < N → defaultValue (ty j) = vp_V fs0 j) {idx0 : Nat} (hcl : Cond.classLink own idx0 C ∈ mGW) (hin2 : Cond.instantiable C N ∈ mGW) (hini2 : Cond.initialized C ∈ mGW)
    (hcells : cells + 1 ≤ R.cells) (hslots : slots + N ≤ R.slots) (d1 : decode cc pc = .ok (.new idx0, 3))
    (kk : ∀ (q : Nat) (H1 : Heap), iSt g A s (X ++ [(q, .inr (ci, fs0))]) H1 locs → W p l e R s m args below meth c H1 locs (cells + 1) (slots + N) Q (F0 m (pc + 3) ls (.ref q :: rest))) : W p l e R s m args below meth c H locs cells slots Q (F0 m pc ls rest) := by
  obtain ⟨⟨hx, hb, hml, hown, hts0⟩, -, -, hE, hA⟩ := C0
  have hts : ∀ w ∈ mGW, w.before args s = true := fun w h => hts0 w (xIn h)
  exact va_new hx hb hts hws ty hty hown (hts _ hcl) (hts _ hin2) (hts _ hini2) hE.1.1 hX.1 hX.2.1 hX.2.2 hA hc hfs hcells hslots d1 (fun q H1 hP1 hD1 hS1 => kk q H1 ⟨hP1, hD1, hS1⟩)
theorem sSH_nil : sSH ++ ([] : List mH) = sSH := rfl
set_option maxHeartbeats 4000000 in
theorem v_si {g : mG} {a2 : Nat → Nat} {o2 : Option Nat} {M : mM} {t : List Int32} {q : Nat} (hE2 : ∀ (A : Nat → Prop) (U : State) (H : Heap), mEnv g A U H → mEnv (a2, g.2.1, g.2.2.1, o2, []) A U H) (hS : SBt M t) (hn : t.length < 16) (hlo : sLo t) : vOK xGW yJ0_init_db425 cJ0_init_db425 5 (none) ({ frames := 4, cells := 1, slots := 16, locals := 192 } : Room) 1 16 g [.ref q, .ref (a2 0), .null] ((q, .inr (0, [.null, .int 0, .int 0, .int 0])) :: mWs a2 g.2.2.1 sSH M) (fun v ws1 => v = none ∧ ∃ (r : Nat) (f' : Nat → Int32), ws1 = (q, .inr (0, [.ref r, .int 0, .int 0, .int 0])) :: (mWs a2 g.2.2.1 sSH M ++ [(r, .inl (g.2.2.1 3, t.length, .inl f'))]) ∧ ∀ j, j < t.length → f' j = t.getD j 0) := by
  refine vOK.of (by decide) (Nat.le_of_ble_eq_true rfl) ?_
  intro p l e s m args below meth c ls C0 hin hX hsz hl
  have C1 : iCx p s m args meth c cJ0_init_db425 5 RJ0 g _ := ⟨C0.1, hin rfl, C0.2⟩
  obtain ⟨b1, b2, b3, b4⟩ := id hS
  refine iObj0 (idx := 1) C1 (lv_at hl 0 rfl) hl.1 (by decide +kernel : decode cJ0_init_db425 0 = .ok (.aload_n 0, 1)) (by decide +kernel : decode cJ0_init_db425 1 = .ok (.invokespecial 1, 3)) (mIn 1380 (by decide +kernel) rfl) wi_obj wc_obj (Nat.le_of_ble_eq_true rfl) (Nat.le_of_ble_eq_true rfl) ?_
  refine lv_aload_n C0.1.1 C0.1.2.1 (by decide +kernel : decode cJ0_init_db425 4 = .ok (.aload_n 1, 1)) rfl (lv_at hl 1 rfl) ?_
  refine vCallU (z := yJ5_getValue_6d5f1) (y := yJ5_getValue_6d5f1) (C := RJ4) (X := [_]) (ws0 := (mWs a2 g.2.2.1 sSH M)) (q := a2 0) (av := []) (rest := []) C0.1 C0.2.2.2.1 C0.2.2.2.2 hX v_gv (fun _ h => h) ⟨rfl, rfl⟩ ⟨Nat.le_of_ble_eq_true rfl, Nat.le_of_ble_eq_true rfl⟩ (va_recv (q := (RJ4, TJ4, 4)) (ci := 1) (q0 := 1) C0.2.2.2.1.1.1 hX.1 rfl rfl) wc_J5_getValue_6d5f1 wc_J5_getValue_6d5f1 wk_RJ0_552 (show Cond.sameMethod yJ5_getValue_6d5f1.cls yJ5_getValue_6d5f1.cls yJ5_getValue_6d5f1.name yJ5_getValue_6d5f1.desc ∈ mGW from mIn 1383 (by decide +kernel) rfl) wi_J5_getValue_6d5f1 wi_J5_getValue_6d5f1 (mIn 1384 (by decide +kernel) rfl) wn_RJ5 wd_J5_getValue_6d5f1 hl.1 (by decide) (by decide +kernel : decode cJ0_init_db425 5 = .ok (.invokevirtual 552, 3)) ⟨Nat.le_of_ble_eq_true rfl, Nat.le_of_ble_eq_true rfl⟩ (fun v ws1 H locs hPo hX => ?_)
  obtain ⟨rfl, rfl⟩ := hPo
  refine lv_astore_n (lv' := [(3, .ref (a2 1)), (0, .ref q), (1, .ref (a2 0)), (2, .null)]) C0.1.1 C0.1.2.1 (by decide +kernel : decode cJ0_init_db425 8 = .ok (.astore_n 3, 1)) rfl hl (by decide) rfl (fun ls hl => ?_)
  refine lv_aload_n C0.1.1 C0.1.2.1 (by decide +kernel : decode cJ0_init_db425 9 = .ok (.aload_n 1, 1)) rfl (lv_at hl 2 rfl) ?_
  refine vCallU (z := yJ5_length_8abf5) (y := yJ4_length_8abf5) (C := RJ4) (X := [_]) (ws0 := (mWs a2 g.2.2.1 sSH M)) (q := a2 0) (av := []) (rest := []) C0.1 C0.2.2.2.1 C0.2.2.2.2 hX (vOK.x (xOKr.w xok_J4_length_8abf5) (as := [.inr (some 0)]) (ex := []) (P := fun r M' => r = some (.inl (nI t.length)) ∧ M' = M) hE2 ⟨(), ⟨rfl, trivial⟩, fun v M' h => ⟨by rw [h.1, b2], h.2⟩⟩) (fun _ h => h) ⟨rfl, rfl⟩ ⟨Nat.le_of_ble_eq_true rfl, Nat.le_of_ble_eq_true rfl⟩ (va_recv (q := (RJ4, TJ4, 4)) (ci := 1) (q0 := 1) C0.2.2.2.1.1.1 hX.1 rfl rfl) wc_J4_length_8abf5 wc_J5_length_8abf5 wk_RJ0_549 (show Cond.sameMethod yJ5_length_8abf5.cls yJ5_length_8abf5.cls yJ5_length_8abf5.name yJ5_length_8abf5.desc ∈ mGW from mIn 1528 (by decide +kernel) rfl) wi_J5_length_8abf5 wi_J4_length_8abf5 (mIn 1530 (by decide +kernel) rfl) wn_RJ4 wd_J5_length_8abf5 hl.1 (by decide) (by decide +kernel : decode cJ0_init_db425 10 = .ok (.invokevirtual 549, 3)) ⟨Nat.le_of_ble_eq_true rfl, Nat.le_of_ble_eq_true rfl⟩ (fun v ws1 H locs hPo hX => ?_)
  obtain ⟨r, M', rfl, ⟨rfl, rfl⟩, rfl⟩ := hPo
  refine lv_istore (lv' := [(4, .int (nI t.length)), (3, .ref (a2 1)), (0, .ref q), (1, .ref (a2 0)), (2, .null)]) C0.1.1 C0.1.2.1 (by decide +kernel : decode cJ0_init_db425 13 = .ok (.istore 4, 2)) hl (by decide) rfl (fun ls hl => ?_)
  refine lv_aload_n C0.1.1 C0.1.2.1 (by decide +kernel : decode cJ0_init_db425 15 = .ok (.aload_n 1, 1)) rfl (lv_at hl 3 rfl) ?_
  refine vCallU (z := yJ5_isLatin1_aae02) (y := yJ5_isLatin1_aae02) (C := RJ4) (X := [_]) (ws0 := (mWs a2 g.2.2.1 sSH M')) (q := a2 0) (av := []) (rest := []) C0.1 C0.2.2.2.1 C0.2.2.2.2 hX (vOK.x (xOKr.w xok_J5_isLatin1_aae02) (as := [.inr (some 0)]) (ex := []) (P := fun r M2 => r = some (.inl (nI 1)) ∧ M2 = M') hE2 ⟨(), ⟨rfl, b1⟩, fun v M' h => ⟨by rw [h.1], h.2⟩⟩) (fun _ h => h) ⟨rfl, rfl⟩ ⟨Nat.le_of_ble_eq_true rfl, Nat.le_of_ble_eq_true rfl⟩ (va_recv (q := (RJ4, TJ4, 4)) (ci := 1) (q0 := 1) C0.2.2.2.1.1.1 hX.1 rfl rfl) wc_J5_isLatin1_aae02 wc_J5_isLatin1_aae02 wk_RJ0_1047 (show Cond.sameMethod yJ5_isLatin1_aae02.cls yJ5_isLatin1_aae02.cls yJ5_isLatin1_aae02.name yJ5_isLatin1_aae02.desc ∈ mGW from mIn 723 (by decide +kernel) rfl) wi_J5_isLatin1_aae02 wi_J5_isLatin1_aae02 (mIn 724 (by decide +kernel) rfl) wn_RJ5 wd_J5_isLatin1_aae02 hl.1 (by decide) (by decide +kernel : decode cJ0_init_db425 16 = .ok (.invokevirtual 1047, 3)) ⟨Nat.le_of_ble_eq_true rfl, Nat.le_of_ble_eq_true rfl⟩ (fun v ws1 H locs hPo hX => ?_)
  obtain ⟨r, M2, rfl, ⟨rfl, rfl⟩, rfl⟩ := hPo
  refine lv_if_eq (tgt := 41) C0.1.1 C0.1.2.1 (by decide +kernel : decode cJ0_init_db425 19 = .ok (.ifCond .eq 22, 3)) (by decide) (fun h => absurd h (by decide)) (fun _ => ?_)
  refine lv_aload_n C0.1.1 C0.1.2.1 (by decide +kernel : decode cJ0_init_db425 22 = .ok (.aload_n 0, 1)) rfl (lv_at hl 2 rfl) ?_
  refine lv_iconst (v := 0) C0.1.1 C0.1.2.1 (by decide +kernel : decode cJ0_init_db425 23 = .ok (.iconst 0, 1)) (by decide) ?_
  refine i_putF (k := 1) (ty := .byte) (h0 := q) C1 hX fe_RJ0_15 rfl rfl rfl rfl (by decide) (by decide) (Nat.le_of_ble_eq_true rfl) (by decide +kernel : decode cJ0_init_db425 24 = .ok (.putfield 15, 3)) (fun H locs hX => ?_)
  refine lv_aload_n C0.1.1 C0.1.2.1 (by decide +kernel : decode cJ0_init_db425 27 = .ok (.aload_n 0, 1)) rfl (lv_at hl 2 rfl) ?_
  refine lv_aload_n C0.1.1 C0.1.2.1 (by decide +kernel : decode cJ0_init_db425 28 = .ok (.aload_n 3, 1)) rfl (lv_at hl 1 rfl) ?_
  refine lv_iconst (v := 0) C0.1.1 C0.1.2.1 (by decide +kernel : decode cJ0_init_db425 29 = .ok (.iconst 0, 1)) (by decide) ?_
  refine lv_iload C0.1.1 C0.1.2.1 (by decide +kernel : decode cJ0_init_db425 30 = .ok (.iload 4, 2)) (lv_at hl 0 rfl) ?_
  refine vCallS (X := [(q, .inr (0, [.null, .int 0, .int 0, .int 0])), (a2 0, .inr (1, mFld a2 (M2 0) 0 [some 1, none, none, none]))]) (ws0 := [(a2 1, .inl (g.2.2.1 3, 16, .inl (M2 1)))]) (av := [.ref (a2 1), .int 0, .int (nI t.length)]) (rest := [.ref q]) C0.1 C0.2.2.2.1 C0.2.2.2.2 hX (v_cor hn (by omega) (by decide) (fun j hj => ?_)) (fun _ h => h) ⟨rfl, rfl⟩ ⟨Nat.le_of_ble_eq_true rfl, Nat.le_of_ble_eq_true rfl⟩ wc_J7_copyOfRange_39247 wk_RJ0_54 wt_J7_copyOfRange_39247 wn_RJ7 wd_J7_copyOfRange_39247 hl.1 (by show 1 + 0 ≤ 8; omega) (by decide +kernel : decode cJ0_init_db425 32 = .ok (.invokestatic 54, 3)) ⟨Nat.le_of_ble_eq_true rfl, Nat.le_of_ble_eq_true rfl⟩ (fun v ws1 H locs hPo hX => ?_)
  · obtain ⟨k, hk, ek⟩ := hlo j hj
    rw [b4 j hj, ek]
    exact ch7f k hk
  obtain ⟨r, f', rfl, rfl, hf'⟩ := hPo
  refine i_putF (k := 0) (ty := .array .byte) (h0 := q) C1 hX fe_RJ0_9 rfl rfl rfl rfl rfl rfl (Nat.le_of_ble_eq_true rfl) (by decide +kernel : decode cJ0_init_db425 35 = .ok (.putfield 9, 3)) (fun H locs hX => ?_)
  refine lv_goto (tgt := 97) C0.1.1 C0.1.2.1 (by decide +kernel : decode cJ0_init_db425 38 = .ok (.goto 59, 3)) (by decide) ?_
  exact vRetV C0 hX ⟨rfl, r, f', rfl, fun j hj => (hf' j hj).trans (b4 j hj)⟩ (by decide +kernel : decode cJ0_init_db425 97 = .ok (.return_, 1)) (by decide) (by decide)

set_option maxHeartbeats 4000000 in
theorem v_si2 {g : mG} {a2 : Nat → Nat} {o2 : Option Nat} {M : mM} {t : List Int32} {q : Nat} (hE2 : ∀ (A : Nat → Prop) (U : State) (H : Heap), mEnv g A U H → mEnv (a2, g.2.1, g.2.2.1, o2, []) A U H) (hS : SBt M t) (hn : t.length < 16) (hlo : sLo t) : vOK xGW yJ0_init_81219 cJ0_init_81219 2 (none) ({ frames := 5, cells := 1, slots := 16, locals := 240 } : Room) 1 16 g [.ref q, .ref (a2 0)] ((q, .inr (0, [.null, .int 0, .int 0, .int 0])) :: mWs a2 g.2.2.1 sSH M) (fun v ws1 => v = none ∧ ∃ (r : Nat) (f' : Nat → Int32), ws1 = (q, .inr (0, [.ref r, .int 0, .int 0, .int 0])) :: (mWs a2 g.2.2.1 sSH M ++ [(r, .inl (g.2.2.1 3, t.length, .inl f'))]) ∧ ∀ j, j < t.length → f' j = t.getD j 0) := by
  refine vOK.of (by decide) (Nat.le_of_ble_eq_true rfl) ?_
  intro p l e s m args below meth c ls C0 hin hX hsz hl
  refine lv_aload_n C0.1.1 C0.1.2.1 (by decide +kernel : decode cJ0_init_81219 0 = .ok (.aload_n 0, 1)) rfl (lv_at hl 0 rfl) ?_
  refine lv_aload_n C0.1.1 C0.1.2.1 (by decide +kernel : decode cJ0_init_81219 1 = .ok (.aload_n 1, 1)) rfl (lv_at hl 1 rfl) ?_
  refine lv_null C0.1.1 C0.1.2.1 (by decide +kernel : decode cJ0_init_81219 2 = .ok (.aconst_null, 1)) ?_
  refine vCallI (X := []) (q := q) (av := [.ref (a2 0), .null]) (rest := []) C0.1 C0.2.2.2.1 C0.2.2.2.2 hX (v_si hE2 hS hn hlo) (fun _ h => h) ⟨rfl, rfl⟩ ⟨Nat.le_of_ble_eq_true rfl, Nat.le_of_ble_eq_true rfl⟩ wc_J0_init_db425 wk_RJ0_489 wi_J0_init_db425 wn_RJ0 rfl wd_J0_init_db425 hl.1 (by decide) (by decide +kernel : decode cJ0_init_81219 3 = .ok (.invokespecial 489, 3)) ⟨Nat.le_of_ble_eq_true rfl, Nat.le_of_ble_eq_true rfl⟩ (fun v ws1 H locs hPo hX => ?_)
  obtain ⟨rfl, r, f', rfl, hf'⟩ := hPo
  exact vRetV C0 hX ⟨rfl, r, f', rfl, hf'⟩ (by decide +kernel : decode cJ0_init_81219 6 = .ok (.return_, 1)) (by decide) (by decide)

set_option maxHeartbeats 4000000 in
theorem v_ts {g : mG} {a2 : Nat → Nat} {o2 : Option Nat} {M : mM} {t : List Int32} (hE2 : ∀ (A : Nat → Prop) (U : State) (H : Heap), mEnv g A U H → mEnv (a2, g.2.1, g.2.2.1, o2, []) A U H) (hS : SBt M t) (hn : t.length < 16) (hlo : sLo t) : vOK xGW yJ4_toString_0e30d cJ4_toString_0e30d 1 (some (.object "java/lang/String")) ({ frames := 6, cells := 2, slots := 20, locals := 288 } : Room) 2 20 g [.ref (a2 0)] (mWs a2 g.2.2.1 sSH M) (fun v ws1 => ∃ (q r : Nat) (f' : Nat → Int32), v = some (.ref q) ∧ ws1 = mWs a2 g.2.2.1 sSH M ++ [(q, .inr (0, [.ref r, .int 0, .int 0, .int 0])), (r, .inl (g.2.2.1 3, t.length, .inl f'))] ∧ ∀ j, j < t.length → f' j = t.getD j 0) := by
  refine vOK.of (by decide) (Nat.le_of_ble_eq_true rfl) ?_
  intro p l e s m args below meth c ls C0 hin hX hsz hl
  refine v_new (ci := 0) (fs0 := [.null, .int 0, .int 0, .int 0]) C0 hX rfl wu_RJ0 tyJ0 tyJ0_ok (fun j hj => by
      have hj : j < 4 := hj
      rcases (by omega : j = 0 ∨ j = 1 ∨ j = 2 ∨ j = 3) with rfl | rfl | rfl | rfl <;> rfl) (mIn 1372 (by decide +kernel) rfl) (mIn 1373 (by decide +kernel) rfl) wn_RJ0 (Nat.le_of_ble_eq_true rfl) (Nat.le_of_ble_eq_true rfl) (by decide +kernel : decode cJ4_toString_0e30d 0 = .ok (.new 18, 3)) (fun q H hX => ?_)
  refine lv_dup C0.1.1 C0.1.2.1 (by decide +kernel : decode cJ4_toString_0e30d 3 = .ok (.dup, 1)) rfl ?_
  refine lv_aload_n C0.1.1 C0.1.2.1 (by decide +kernel : decode cJ4_toString_0e30d 4 = .ok (.aload_n 0, 1)) rfl (lv_at hl 0 rfl) ?_
  refine vCallI (X := []) (ws0 := [(q, .inr (0, [.null, .int 0, .int 0, .int 0]))] ++ mWs a2 g.2.2.1 sSH M) (q := q) (av := [.ref (a2 0)]) (rest := [.ref q]) C0.1 C0.2.2.2.1 C0.2.2.2.2 hX.swap0 (v_si2 hE2 hS hn hlo) (fun _ h => h) ⟨rfl, rfl⟩ ⟨Nat.le_of_ble_eq_true rfl, Nat.le_of_ble_eq_true rfl⟩ wc_J0_init_81219 wk_RJ4_137 wi_J0_init_81219 wn_RJ0 rfl wd_J0_init_81219 hl.1 (by show 1 + 0 ≤ 8; omega) (by decide +kernel : decode cJ4_toString_0e30d 5 = .ok (.invokespecial 137, 3)) ⟨Nat.le_of_ble_eq_true rfl, Nat.le_of_ble_eq_true rfl⟩ (fun v ws1 H locs hPo hX => ?_)
  obtain ⟨rfl, r, f', rfl, hf'⟩ := hPo
  have hX2 := iSt.swap0 (Y := [_]) (Z := mWs a2 g.2.2.1 sSH M ++ [_]) hX
  have hX3 : iSt g (va_A (mWs a2 g.2.2.1 sSH M) s.heap.size) s (mWs a2 g.2.2.1 sSH M ++ ([(r, .inl (g.2.2.1 3, t.length, .inl f'))] ++ [(q, .inr (0, [.ref r, .int 0, .int 0, .int 0]))])) H locs := by
    rw [← List.append_assoc]
    exact hX2
  exact vRetA (rt := .object "java/lang/String") C0 (Or.inl ⟨_, rfl⟩) hX3.swap ⟨q, r, f', rfl, rfl, hf'⟩ (by decide +kernel : decode cJ4_toString_0e30d 8 = .ok (.areturn, 1)) (by decide) (by decide)

