/-! ===== textOf AND print OF THE REFERENCE ===== -/
section TEXTOF
variable {p : Program} {l : Launch} {e : Env} {R : Room} {s : State} {m : MethodId} {args : Array Value} {below : List Frame} {meth : Method} {c : Code} {Q : State → Prop} {H : Heap} {locs : List Loc} {cells slots : Nat} {pc : Nat} {ls : Array Slot} {rest : List Value} {A : Nat → Prop} {g : mG} {E : va_W} {M : mM} {u : List Int32} {x j k : Nat}
set_option maxHeartbeats 4000000 in
theorem v_blkC (C0 : vCx p s m args meth c cX8_textOf 4 RX8 (some (.object "java/lang/String")) g A) (hx : vTxt g x u E) (hX : iSt g A s (mWs g.1 g.2.2.1 mSH M ++ E) H locs) (hl : lv_has ls 4 [(2, .ref x), (3, .ref (g.1 (1000 + 15))), (0, .ref (g.1 50)), (1, .int (nI j))]) (hj : j < 90) (hk : k < 5) (hs : M 53 j = nI k) (hlen : u.length ≤ 13) (hlo : sLo u) (hR : 9 ≤ R.frames ∧ 500 ≤ R.locals) (hf : cells + 4 ≤ R.cells ∧ slots + 40 ≤ R.slots)
    (d0 : decode cX8_textOf pc = .ok (.new 328, 3)) (d1 : decode cX8_textOf (pc + 3) = .ok (.dup, 1)) (d2 : decode cX8_textOf (pc + 4) = .ok (.invokespecial 330, 3)) (d3 : decode cX8_textOf (pc + 7) = .ok (.aload_n 2, 1)) (d4 : decode cX8_textOf (pc + 8) = .ok (.invokevirtual 331, 3)) (d5 : decode cX8_textOf (pc + 11) = .ok (.ldc_w 335, 3)) (d6 : decode cX8_textOf (pc + 14) = .ok (.invokevirtual 331, 3)) (d7 : decode cX8_textOf (pc + 17) = .ok (.aload_n 3, 1)) (d8 : decode cX8_textOf (pc + 18) = .ok (.aload_n 0, 1)) (d9 : decode cX8_textOf (pc + 19) = .ok (.getfield 16, 3)) (d10 : decode cX8_textOf (pc + 22) = .ok (.iload_n 1, 1)) (d11 : decode cX8_textOf (pc + 23) = .ok (.iaload, 1)) (d12 : decode cX8_textOf (pc + 24) = .ok (.invokevirtual 236, 3)) (d13 : decode cX8_textOf (pc + 27) = .ok (.invokevirtual 337, 3)) (d14 : decode cX8_textOf (pc + 30) = .ok (.invokevirtual 340, 3)) (d15 : decode cX8_textOf (pc + 33) = .ok (.astore_n 2, 1))
    (kk : ∀ (x : Nat) (E' : va_W) (H' : Heap) (locs' : List Loc) (ls' : Array Slot), vTxt g x (u ++ [nI 32] ++ [fLetter (nI k)]) E' → iSt g A s (mWs g.1 g.2.2.1 mSH M ++ E') H' locs' → lv_has ls' 4 [(2, .ref x), (3, .ref (g.1 (1000 + 15))), (0, .ref (g.1 50)), (1, .int (nI j))] → W p l e R s m args below meth c H' locs' (cells + 4) (slots + 40) Q (F0 m (pc + 34) ls' [])) : W p l e R s m args below meth c H locs cells slots Q (F0 m pc ls []) := by
  have hR8 : 8 ≤ R.frames ∧ 400 ≤ R.locals := ⟨by omega, by omega⟩
  refine v_sb (X0 := mWs g.1 g.2.2.1 mSH M ++ E) C0 hX ⟨by omega, by omega⟩ (mIn 1363 (by decide +kernel) rfl) wk_RX8_330 hl.1 (by decide) ⟨by omega, by omega⟩ d0 d1 d2 (fun ad Mb H locs hS hX => ?_)
  refine lv_aload_n C0.1.1 C0.1.2.1 d3 rfl (lv_at hl 0 rfl) ?_
  refine v_apS (X0 := mWs g.1 g.2.2.1 mSH M) (E := E) C0 hx (by rw [← List.append_assoc]; exact hX) hS hlo (by show 0 + _ ≤ 16; omega) hR8 wk_RX8_331 hl.1 (by decide) ⟨by omega, by omega⟩ d4 (fun Mb H locs hS hX => ?_)
  refine mLdcwS C0.1.1 C0.1.2.1 C0.1.2.2.2.1 (C0.2.2.2.1.1.2.2.1 _ (List.mem_of_getElem? (i := 25) rfl)) d5 ?_
  refine v_apS (E := []) (x := g.1 (1000 + 16)) (u := [nI 32]) C0 (Or.inl ⟨16, by decide, rfl, rfl, rfl⟩) hX hS (sLo_1 ⟨32, by decide, rfl⟩) (by show ([] ++ u).length + 1 ≤ 16; rw [List.nil_append]; omega) hR8 wk_RX8_331 hl.1 (by decide) ⟨by omega, by omega⟩ d6 (fun Mb H locs hS hX => ?_)
  rw [List.nil_append] at hS
  refine lv_aload_n C0.1.1 C0.1.2.1 d7 rfl (lv_at hl 1 rfl) ?_
  refine v_rdF (cell := 53) (k := 3) (j := j) C0 hX (lv_at hl 2 rfl) (lv_at hl 3 rfl) hj fe_RX8_16 rfl rfl d8 d9 d10 d11 ?_
  rw [hs]
  refine v_nm C0 hX hk hR8 hl.1 (by show 1 + 0 ≤ 8; omega) ⟨by omega, by omega⟩ d12 (fun H locs hX => ?_)
  obtain ⟨cz, hc, ec⟩ := fL_lo (nI k)
  rw [ec]
  refine v_apC (k := cz) C0 hX hS hc (by rw [List.length_append]; show _ + 1 < 16; omega) hR8 wk_RX8_337 hl.1 (by decide) ⟨by omega, by omega⟩ d13 (fun Mb H locs hS hX => ?_)
  rw [← ec] at hS
  refine v_tos C0 hX hS (sLo_app (sLo_app hlo (sLo_1 ⟨32, by decide, rfl⟩)) (sLo_1 (fL_lo _))) (by rw [List.length_append, List.length_append]; show _ + 1 + 1 < 16; omega) hR8 wk_RX8_340 hl.1 (by decide) ⟨by omega, by omega⟩ d14 (fun x E H locs hx hX => ?_)
  refine lv_astore_n (lv' := [(2, .ref x), (3, .ref (g.1 (1000 + 15))), (0, .ref (g.1 50)), (1, .int (nI j))]) C0.1.1 C0.1.2.1 d15 rfl hl (by decide) rfl (fun ls hl => ?_)
  exact kk x E H locs ls hx hX hl
set_option maxHeartbeats 4000000 in
theorem v_blkI (C0 : vCx p s m args meth c cX8_textOf 4 RX8 (some (.object "java/lang/String")) g A) (hx : vTxt g x u E) (hX : iSt g A s (mWs g.1 g.2.2.1 mSH M ++ E) H locs) (hl : lv_has ls 4 [(2, .ref x), (3, .ref (g.1 (1000 + 15))), (0, .ref (g.1 50)), (1, .int (nI j))]) (hj : j < 90) (hk : k < 1000000) (hs : M 52 j = nI k) (hlen : u.length + (gD 3 k).length ≤ 14) (hlo : sLo u) (hR : 9 ≤ R.frames ∧ 500 ≤ R.locals) (hf : cells + 4 ≤ R.cells ∧ slots + 40 ≤ R.slots)
    (d0 : decode cX8_textOf pc = .ok (.new 328, 3)) (d1 : decode cX8_textOf (pc + 3) = .ok (.dup, 1)) (d2 : decode cX8_textOf (pc + 4) = .ok (.invokespecial 330, 3)) (d3 : decode cX8_textOf (pc + 7) = .ok (.aload_n 2, 1)) (d4 : decode cX8_textOf (pc + 8) = .ok (.invokevirtual 331, 3)) (d5 : decode cX8_textOf (pc + 11) = .ok (.ldc_w 335, 3)) (d6 : decode cX8_textOf (pc + 14) = .ok (.invokevirtual 331, 3)) (d7 : decode cX8_textOf (pc + 17) = .ok (.aload_n 0, 1)) (d8 : decode cX8_textOf (pc + 18) = .ok (.getfield 13, 3)) (d9 : decode cX8_textOf (pc + 21) = .ok (.iload_n 1, 1)) (d10 : decode cX8_textOf (pc + 22) = .ok (.iaload, 1)) (d11 : decode cX8_textOf (pc + 23) = .ok (.invokevirtual 344, 3)) (d12 : decode cX8_textOf (pc + 26) = .ok (.invokevirtual 340, 3)) (d13 : decode cX8_textOf (pc + 29) = .ok (.astore_n 2, 1))
    (kk : ∀ (x : Nat) (E' : va_W) (H' : Heap) (locs' : List Loc) (ls' : Array Slot), vTxt g x (u ++ [nI 32] ++ gD 3 k) E' → iSt g A s (mWs g.1 g.2.2.1 mSH M ++ E') H' locs' → lv_has ls' 4 [(2, .ref x), (3, .ref (g.1 (1000 + 15))), (0, .ref (g.1 50)), (1, .int (nI j))] → W p l e R s m args below meth c H' locs' (cells + 4) (slots + 40) Q (F0 m (pc + 30) ls' [])) : W p l e R s m args below meth c H locs cells slots Q (F0 m pc ls []) := by
  have hR8 : 8 ≤ R.frames ∧ 400 ≤ R.locals := ⟨by omega, by omega⟩
  refine v_sb (X0 := mWs g.1 g.2.2.1 mSH M ++ E) C0 hX ⟨by omega, by omega⟩ (mIn 1363 (by decide +kernel) rfl) wk_RX8_330 hl.1 (by decide) ⟨by omega, by omega⟩ d0 d1 d2 (fun ad Mb H locs hS hX => ?_)
  refine lv_aload_n C0.1.1 C0.1.2.1 d3 rfl (lv_at hl 0 rfl) ?_
  refine v_apS (X0 := mWs g.1 g.2.2.1 mSH M) (E := E) C0 hx (by rw [← List.append_assoc]; exact hX) hS hlo (by show 0 + _ ≤ 16; omega) hR8 wk_RX8_331 hl.1 (by decide) ⟨by omega, by omega⟩ d4 (fun Mb H locs hS hX => ?_)
  refine mLdcwS C0.1.1 C0.1.2.1 C0.1.2.2.2.1 (C0.2.2.2.1.1.2.2.1 _ (List.mem_of_getElem? (i := 25) rfl)) d5 ?_
  refine v_apS (E := []) (x := g.1 (1000 + 16)) (u := [nI 32]) C0 (Or.inl ⟨16, by decide, rfl, rfl, rfl⟩) hX hS (sLo_1 ⟨32, by decide, rfl⟩) (by show ([] ++ u).length + 1 ≤ 16; rw [List.nil_append]; omega) hR8 wk_RX8_331 hl.1 (by decide) ⟨by omega, by omega⟩ d6 (fun Mb H locs hS hX => ?_)
  rw [List.nil_append] at hS
  refine v_rdF (cell := 52) (k := 2) (j := j) C0 hX (lv_at hl 2 rfl) (lv_at hl 3 rfl) hj fe_RX8_13 rfl rfl d7 d8 d9 d10 ?_
  rw [hs]
  refine v_apI (k := k) C0 hX hS hk (by rw [List.length_append]; show _ + 1 + _ ≤ 16; omega) hR8 wk_RX8_344 hl.1 (by decide) ⟨by omega, by omega⟩ d11 (fun Mb H locs hS hX => ?_)
  refine v_tos C0 hX hS (sLo_app (sLo_app hlo (sLo_1 ⟨32, by decide, rfl⟩)) (gD_lo 3 k)) (by rw [List.length_append, List.length_append]; show _ + 1 + _ < 16; omega) hR8 wk_RX8_340 hl.1 (by decide) ⟨by omega, by omega⟩ d12 (fun x E H locs hx hX => ?_)
  refine lv_astore_n (lv' := [(2, .ref x), (3, .ref (g.1 (1000 + 15))), (0, .ref (g.1 50)), (1, .int (nI j))]) C0.1.1 C0.1.2.1 d13 rfl hl (by decide) rfl (fun ls hl => ?_)
  exact kk x E H locs ls hx hX hl
set_option maxHeartbeats 4000000 in
theorem v_toC {z : aA} (C0 : vCx p s m args meth c cX8_textOf 4 RX8 (some (.object "java/lang/String")) g (va_A (mWs g.1 g.2.2.1 mSH M) s.heap.size)) (hx : vTxt g x u E) (hX : iSt g (va_A (mWs g.1 g.2.2.1 mSH M) s.heap.size) s (mWs g.1 g.2.2.1 mSH M ++ E) H locs) (hl : lv_has ls 4 [(2, .ref x), (3, .ref (g.1 (1000 + 15))), (0, .ref (g.1 50)), (1, .int (nI j))]) (hj : j < 90) (hw : M 51 j = nI z.1) (hn : M 52 j = z.2.1) (hs : M 53 j = z.2.2) (he : eOk z) (h5 : z.1 = 5 → ub z.2.2 < 5) (h1 : z.1 = 1 → ub z.2.2 < 5) (hu : eT z = if z.1 = 1 then u ++ [nI 32] ++ [fLetter z.2.2] else u) (hlo : sLo u) (hlen : z.1 = 1 → u.length ≤ 13) (hR : 9 ≤ R.frames ∧ 500 ≤ R.locals) (hc : cells ≤ 8 ∧ slots ≤ 80) (hR2 : 12 ≤ R.cells ∧ 120 ≤ R.slots) :
    W p l e R s m args below meth c H locs cells slots (vQ below g args s 12 120 (mWs g.1 g.2.2.1 mSH M) (fun v ws1 => ∃ (x : Nat) (E : va_W), v = some (.ref x) ∧ vTxt g x (eT z) E ∧ ws1 = mWs g.1 g.2.2.1 mSH M ++ E)) (F0 m 98 ls []) := by
  refine v_rdF (cell := 51) (k := 1) (j := j) C0 hX (lv_at hl 2 rfl) (lv_at hl 3 rfl) hj fe_RX8_9 rfl rfl (by decide +kernel : decode cX8_textOf 98 = .ok (.aload_n 0, 1)) (by decide +kernel : decode cX8_textOf 99 = .ok (.getfield 9, 3)) (by decide +kernel : decode cX8_textOf 102 = .ok (.iload_n 1, 1)) (by decide +kernel : decode cX8_textOf 103 = .ok (.iaload, 1)) ?_
  rw [hw]
  refine lv_iconst (v := nI 1) C0.1.1 C0.1.2.1 (by decide +kernel : decode cX8_textOf 104 = .ok (.iconst 1, 1)) (by decide) ?_
  refine lv_icmp_ne (tgt := 142) C0.1.1 C0.1.2.1 (by decide +kernel : decode cX8_textOf 105 = .ok (.if_icmp .ne 37, 3)) (by decide) (fun h => ?_) (fun h => ?_)
  · have hne : z.1 ≠ 1 := fun q => h (by rw [q])
    rw [if_neg hne] at hu
    refine lv_aload_n C0.1.1 C0.1.2.1 (by decide +kernel : decode cX8_textOf 142 = .ok (.aload_n 2, 1)) rfl (lv_at hl 0 rfl) ?_
    exact vRetA (rt := .object "java/lang/String") C0 (Or.inl ⟨_, rfl⟩) hX ⟨x, E, rfl, hu ▸ hx, rfl⟩ (by decide +kernel : decode cX8_textOf 143 = .ok (.areturn, 1)) (by omega) (by omega)
  · have heq : z.1 = 1 := by
      have h2 := congrArg Int32.toNatClampNeg h
      rw [nI_clamp (by have := he.1; omega), nI_clamp (by decide)] at h2
      exact h2
    rw [if_pos heq] at hu
    have e3 : z.2.2 = nI (ub z.2.2) := (nI_ub z.2.2).symm
    refine v_blkC (k := ub z.2.2) C0 hx hX hl hj (h1 heq) (hs.trans e3) (hlen heq) hlo hR (by omega) (by decide +kernel : decode cX8_textOf 108 = .ok (.new 328, 3)) (by decide +kernel : decode cX8_textOf 111 = .ok (.dup, 1)) (by decide +kernel : decode cX8_textOf 112 = .ok (.invokespecial 330, 3)) (by decide +kernel : decode cX8_textOf 115 = .ok (.aload_n 2, 1)) (by decide +kernel : decode cX8_textOf 116 = .ok (.invokevirtual 331, 3)) (by decide +kernel : decode cX8_textOf 119 = .ok (.ldc_w 335, 3)) (by decide +kernel : decode cX8_textOf 122 = .ok (.invokevirtual 331, 3)) (by decide +kernel : decode cX8_textOf 125 = .ok (.aload_n 3, 1)) (by decide +kernel : decode cX8_textOf 126 = .ok (.aload_n 0, 1)) (by decide +kernel : decode cX8_textOf 127 = .ok (.getfield 16, 3)) (by decide +kernel : decode cX8_textOf 130 = .ok (.iload_n 1, 1)) (by decide +kernel : decode cX8_textOf 131 = .ok (.iaload, 1)) (by decide +kernel : decode cX8_textOf 132 = .ok (.invokevirtual 236, 3)) (by decide +kernel : decode cX8_textOf 135 = .ok (.invokevirtual 337, 3)) (by decide +kernel : decode cX8_textOf 138 = .ok (.invokevirtual 340, 3)) (by decide +kernel : decode cX8_textOf 141 = .ok (.astore_n 2, 1)) (fun x E H locs ls hx hX hl => ?_)
    rw [← e3, ← hu] at hx
    refine lv_aload_n C0.1.1 C0.1.2.1 (by decide +kernel : decode cX8_textOf 142 = .ok (.aload_n 2, 1)) rfl (lv_at hl 0 rfl) ?_
    exact vRetA (rt := .object "java/lang/String") C0 (Or.inl ⟨_, rfl⟩) hX ⟨x, E, rfl, hx, rfl⟩ (by decide +kernel : decode cX8_textOf 143 = .ok (.areturn, 1)) (by omega) (by omega)

set_option maxHeartbeats 4000000 in
theorem v_toB {z : aA} (C0 : vCx p s m args meth c cX8_textOf 4 RX8 (some (.object "java/lang/String")) g (va_A (mWs g.1 g.2.2.1 mSH M) s.heap.size)) (hx : vTxt g x u E) (hX : iSt g (va_A (mWs g.1 g.2.2.1 mSH M) s.heap.size) s (mWs g.1 g.2.2.1 mSH M ++ E) H locs) (hl : lv_has ls 4 [(2, .ref x), (3, .ref (g.1 (1000 + 15))), (0, .ref (g.1 50)), (1, .int (nI j))]) (hj : j < 90) (hw : M 51 j = nI z.1) (hn : M 52 j = z.2.1) (hs : M 53 j = z.2.2) (he : eOk z) (h5 : z.1 = 5 → ub z.2.2 < 5) (h1 : z.1 = 1 → ub z.2.2 < 5) (hu : eT z = if z.1 = 1 then (if z.2.1 = -1 then u else u ++ [nI 32] ++ gD 3 (ub z.2.1)) ++ [nI 32] ++ [fLetter z.2.2] else (if z.2.1 = -1 then u else u ++ [nI 32] ++ gD 3 (ub z.2.1))) (hlo : sLo u) (hlen : u.length ≤ 8 ∧ (z.1 = 1 → u.length ≤ 6)) (hR : 9 ≤ R.frames ∧ 500 ≤ R.locals) (hc : cells ≤ 4 ∧ slots ≤ 40) (hR2 : 12 ≤ R.cells ∧ 120 ≤ R.slots) :
    W p l e R s m args below meth c H locs cells slots (vQ below g args s 12 120 (mWs g.1 g.2.2.1 mSH M) (fun v ws1 => ∃ (x : Nat) (E : va_W), v = some (.ref x) ∧ vTxt g x (eT z) E ∧ ws1 = mWs g.1 g.2.2.1 mSH M ++ E)) (F0 m 58 ls []) := by
  refine v_rdF (cell := 52) (k := 2) (j := j) C0 hX (lv_at hl 2 rfl) (lv_at hl 3 rfl) hj fe_RX8_13 rfl rfl (by decide +kernel : decode cX8_textOf 58 = .ok (.aload_n 0, 1)) (by decide +kernel : decode cX8_textOf 59 = .ok (.getfield 13, 3)) (by decide +kernel : decode cX8_textOf 62 = .ok (.iload_n 1, 1)) (by decide +kernel : decode cX8_textOf 63 = .ok (.iaload, 1)) ?_
  rw [hn]
  refine lv_iconst (v := -1) C0.1.1 C0.1.2.1 (by decide +kernel : decode cX8_textOf 64 = .ok (.iconst (-1), 1)) (by decide) ?_
  refine lv_icmp_eq (tgt := 98) C0.1.1 C0.1.2.1 (by decide +kernel : decode cX8_textOf 65 = .ok (.if_icmp .eq 33, 3)) (by decide) (fun h => ?_) (fun h => ?_)
  · rw [if_pos h] at hu
    exact v_toC C0 hx hX hl hj hw hn hs he h5 h1 hu hlo (fun q => by have := hlen.2 q; omega) hR (by omega) hR2
  · rw [if_neg h] at hu
    have e3 : z.2.1 = nI (ub z.2.1) := (nI_ub z.2.1).symm
    have hk := he.2.resolve_left h
    have hg := gD_len hk
    refine v_blkI (k := ub z.2.1) C0 hx hX hl hj hk (hn.trans e3) (by omega) hlo hR (by omega) (by decide +kernel : decode cX8_textOf 68 = .ok (.new 328, 3)) (by decide +kernel : decode cX8_textOf 71 = .ok (.dup, 1)) (by decide +kernel : decode cX8_textOf 72 = .ok (.invokespecial 330, 3)) (by decide +kernel : decode cX8_textOf 75 = .ok (.aload_n 2, 1)) (by decide +kernel : decode cX8_textOf 76 = .ok (.invokevirtual 331, 3)) (by decide +kernel : decode cX8_textOf 79 = .ok (.ldc_w 335, 3)) (by decide +kernel : decode cX8_textOf 82 = .ok (.invokevirtual 331, 3)) (by decide +kernel : decode cX8_textOf 85 = .ok (.aload_n 0, 1)) (by decide +kernel : decode cX8_textOf 86 = .ok (.getfield 13, 3)) (by decide +kernel : decode cX8_textOf 89 = .ok (.iload_n 1, 1)) (by decide +kernel : decode cX8_textOf 90 = .ok (.iaload, 1)) (by decide +kernel : decode cX8_textOf 91 = .ok (.invokevirtual 344, 3)) (by decide +kernel : decode cX8_textOf 94 = .ok (.invokevirtual 340, 3)) (by decide +kernel : decode cX8_textOf 97 = .ok (.astore_n 2, 1)) (fun x E H locs ls hx hX hl => ?_)
    exact v_toC C0 hx hX hl hj hw hn hs he h5 h1 hu (sLo_app (sLo_app hlo (sLo_1 ⟨32, by decide, rfl⟩)) (gD_lo 3 _)) (fun q => by have := hlen.2 q; rw [List.length_append, List.length_append]; show _ + 1 + _ ≤ 13; omega) hR (by omega) hR2

end TEXTOF
set_option maxHeartbeats 4000000 in
theorem v_to {g : mG} {M : mM} {z : aA} {j : Nat} (hj : j < 90) (hw : M 51 j = nI z.1) (hn : M 52 j = z.2.1) (hs : M 53 j = z.2.2) (he : eOk z) (h5 : z.1 = 5 → ub z.2.2 < 5) (h1 : z.1 = 1 → ub z.2.2 < 5) : vOK xGW yX8_textOf cX8_textOf 4 (some (.object "java/lang/String")) ({ frames := 11, cells := 12, slots := 120, locals := 528 } : Room) 12 120 g [.ref (g.1 50), .int (nI j)] (mWs g.1 g.2.2.1 mSH M) (fun v ws1 => ∃ (x : Nat) (E : va_W), v = some (.ref x) ∧ vTxt g x (eT z) E ∧ ws1 = mWs g.1 g.2.2.1 mSH M ++ E) := by
  refine vOK.of (by decide) (Nat.le_of_ble_eq_true rfl) ?_
  intro p l e s m args below meth c ls C0 hin hX hsz hl
  have hX0 : iSt g (va_A (mWs g.1 g.2.2.1 mSH M) s.heap.size) s (mWs g.1 g.2.2.1 mSH M ++ []) s.heap [] := by
    rw [List.append_nil]
    exact hX
  have hg : z.1 < 9 := he.1
  refine v_rdF (cell := 51) (k := 1) (j := j) C0 hX0 (lv_at hl 0 rfl) (lv_at hl 1 rfl) hj fe_RX8_9 rfl rfl (by decide +kernel : decode cX8_textOf 0 = .ok (.aload_n 0, 1)) (by decide +kernel : decode cX8_textOf 1 = .ok (.getfield 9, 3)) (by decide +kernel : decode cX8_textOf 4 = .ok (.iload_n 1, 1)) (by decide +kernel : decode cX8_textOf 5 = .ok (.iaload, 1)) ?_
  rw [hw]
  refine vCallS (X := []) (av := [.int (nI z.1)]) (rest := []) C0.1 C0.2.2.2.1 C0.2.2.2.2 hX (vOK.x0 (xOKr.m ok_X8_wordOf) (g := g) (a2 := g.1) (o2 := g.2.2.2.1) (as := [.inl (nI z.1)]) (M := M) (P := fun r M' => r = some (.inr (some (1000 + z.1))) ∧ M' = M) (fun A U H h => h) (wo_at hg ⟨rfl, rfl⟩)) (fun _ h => xIn h) ⟨rfl, rfl⟩ ⟨Nat.le_of_ble_eq_true rfl, Nat.le_of_ble_eq_true rfl⟩ wc_X8_wordOf wk_RX8_259 wt_X8_wordOf wn_RX8 wd_X8_wordOf hl.1 (by decide) (by decide +kernel : decode cX8_textOf 6 = .ok (.invokestatic 259, 3)) ⟨Nat.le_of_ble_eq_true rfl, Nat.le_of_ble_eq_true rfl⟩ (fun v ws1 H locs hPo hX => ?_)
  obtain ⟨r, M', rfl, ⟨rfl, rfl⟩, rfl⟩ := hPo
  have hX1 : iSt g (va_A (mWs g.1 g.2.2.1 mSH M') s.heap.size) s (mWs g.1 g.2.2.1 mSH M' ++ []) H locs := by
    rw [List.append_nil]
    exact hX
  refine lv_astore_n (lv' := [(2, .ref (g.1 (1000 + z.1))), (0, .ref (g.1 50)), (1, .int (nI j))]) C0.1.1 C0.1.2.1 (by decide +kernel : decode cX8_textOf 9 = .ok (.astore_n 2, 1)) rfl hl (by decide) rfl (fun ls hl => ?_)
  refine mLdcwS C0.1.1 C0.1.2.1 C0.1.2.2.2.1 (C0.2.2.2.1.1.2.2.1 _ (List.mem_of_getElem? (i := 24) rfl)) (by decide +kernel : decode cX8_textOf 10 = .ok (.ldc_w 326, 3)) ?_
  refine lv_astore_n (lv' := [(3, .ref (g.1 (1000 + 15))), (2, .ref (g.1 (1000 + z.1))), (0, .ref (g.1 50)), (1, .int (nI j))]) C0.1.1 C0.1.2.1 (by decide +kernel : decode cX8_textOf 13 = .ok (.astore_n 3, 1)) rfl hl (by decide) rfl (fun ls hl => ?_)
  refine v_rdF (cell := 51) (k := 1) (j := j) C0 hX1 (lv_at hl 2 rfl) (lv_at hl 3 rfl) hj fe_RX8_9 rfl rfl (by decide +kernel : decode cX8_textOf 14 = .ok (.aload_n 0, 1)) (by decide +kernel : decode cX8_textOf 15 = .ok (.getfield 9, 3)) (by decide +kernel : decode cX8_textOf 18 = .ok (.iload_n 1, 1)) (by decide +kernel : decode cX8_textOf 19 = .ok (.iaload, 1)) ?_
  rw [hw]
  refine lv_iconst (v := nI 5) C0.1.1 C0.1.2.1 (by decide +kernel : decode cX8_textOf 20 = .ok (.iconst 5, 1)) (by decide) ?_
  have hl2 := lv_sub hl [1, 0, 2, 3] rfl
  have hlz := wB_len2 z.1 hg
  refine lv_icmp_ne (tgt := 58) C0.1.1 C0.1.2.1 (by decide +kernel : decode cX8_textOf 21 = .ok (.if_icmp .ne 37, 3)) (by decide) (fun h => ?_) (fun h => ?_)
  · have hne : z.1 ≠ 5 := fun q => h (by rw [q])
    exact v_toB C0 (Or.inl ⟨z.1, by omega, rfl, rfl, rfl⟩) hX1 hl2 hj hw hn hs he h5 h1 (by unfold eT; dsimp only; rw [if_neg hne]) (wB_lo _ (by omega)) ⟨by omega, fun q => by rw [if_pos q] at hlz; omega⟩ ⟨Nat.le_of_ble_eq_true rfl, Nat.le_of_ble_eq_true rfl⟩ (by omega) ⟨Nat.le_of_ble_eq_true rfl, Nat.le_of_ble_eq_true rfl⟩
  · have heq : z.1 = 5 := by
      have h2 := congrArg Int32.toNatClampNeg h
      rw [nI_clamp (by omega), nI_clamp (by decide)] at h2
      exact h2
    have e3 : z.2.2 = nI (ub z.2.2) := (nI_ub z.2.2).symm
    rw [if_pos heq] at hlz
    refine v_blkC (k := ub z.2.2) C0 (Or.inl ⟨z.1, by omega, rfl, rfl, rfl⟩) hX1 hl2 hj (h5 heq) (hs.trans e3) (by omega) (wB_lo _ (by omega)) ⟨Nat.le_of_ble_eq_true rfl, Nat.le_of_ble_eq_true rfl⟩ (by decide) (by decide +kernel : decode cX8_textOf 24 = .ok (.new 328, 3)) (by decide +kernel : decode cX8_textOf 27 = .ok (.dup, 1)) (by decide +kernel : decode cX8_textOf 28 = .ok (.invokespecial 330, 3)) (by decide +kernel : decode cX8_textOf 31 = .ok (.aload_n 2, 1)) (by decide +kernel : decode cX8_textOf 32 = .ok (.invokevirtual 331, 3)) (by decide +kernel : decode cX8_textOf 35 = .ok (.ldc_w 335, 3)) (by decide +kernel : decode cX8_textOf 38 = .ok (.invokevirtual 331, 3)) (by decide +kernel : decode cX8_textOf 41 = .ok (.aload_n 3, 1)) (by decide +kernel : decode cX8_textOf 42 = .ok (.aload_n 0, 1)) (by decide +kernel : decode cX8_textOf 43 = .ok (.getfield 16, 3)) (by decide +kernel : decode cX8_textOf 46 = .ok (.iload_n 1, 1)) (by decide +kernel : decode cX8_textOf 47 = .ok (.iaload, 1)) (by decide +kernel : decode cX8_textOf 48 = .ok (.invokevirtual 236, 3)) (by decide +kernel : decode cX8_textOf 51 = .ok (.invokevirtual 337, 3)) (by decide +kernel : decode cX8_textOf 54 = .ok (.invokevirtual 340, 3)) (by decide +kernel : decode cX8_textOf 57 = .ok (.astore_n 2, 1)) (fun x E H locs ls hx hX hl => ?_)
    rw [← e3] at hx
    exact v_toB C0 hx hX hl hj hw hn hs he h5 h1 (by unfold eT; dsimp only; rw [if_pos heq]) (sLo_app (sLo_app (wB_lo _ (by omega)) (sLo_1 ⟨32, by decide, rfl⟩)) (sLo_1 (fL_lo _))) ⟨by rw [List.length_append, List.length_append]; show _ + 1 + 1 ≤ 8; omega, fun q => by omega⟩ ⟨Nat.le_of_ble_eq_true rfl, Nat.le_of_ble_eq_true rfl⟩ (by decide) ⟨Nat.le_of_ble_eq_true rfl, Nat.le_of_ble_eq_true rfl⟩

