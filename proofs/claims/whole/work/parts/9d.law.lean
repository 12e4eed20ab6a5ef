/-! ===== THE LAW: ITS LOOP, ITS START ===== -/
theorem zInv_0 : zInv z0 := ⟨⟨Nat.zero_le _, fun _ h => absurd h List.not_mem_nil⟩, ⟨Nat.zero_le _, trivial⟩, fun l h => (by cases h), fun k _ => ⟨Or.inl rfl, Nat.zero_le _, fun h => absurd h (show ¬ ((-1 : Int32) = 0) by decide)⟩⟩
section LAW
variable {p : Program} {l : Launch} {e : Env} {s : State} {m : MethodId} {below : List Frame} {meth : Method} {c : Code} {Q : State → Prop} {H : Heap} {locs : List Loc} {ls : Array Slot} {g : mG} {M : mM} {z : aZ} {b L i : Nat} {xs : Nat → Int32}
theorem lw_offs {w : Int32} {offs : Array Int} {off : Int} {k : Nat} (hw : w.toInt = (k : Int)) (h : offs[k]? = some off) : offs[(w.toInt - 0).toNat]? = some off := by
  rw [hw, Int.sub_zero, Int.toNat_natCast]
  exact h
set_option maxHeartbeats 4000000 in
theorem lw_turn {n : Nat} (C0 : lw_At p s m meth c b L xs) (hE : iE g (lwA s) s s.heap) (hX : iSt g (lwA s) s (mWs g.1 g.2.2.1 mSH M) H locs) (hC : RpC M z) (hM : RpM M z) (hI : zInv z) (hL : L ≤ 3584) (hi : i + 7 ≤ L) (hn : n < 512) (hl : lv_has ls 4 [(3, .int (nI i)), (2, .ref (g.1 50)), (1, .ref (g.1 0)), (0, .ref b)]) (ih : lwK p l e s m below meth c Q g b i (91 + 12 * (n + 1)) (2426 + 120 * (n + 1))) (w : Int32) : W p l e room_1 s m #[Value.ref b] below meth c H locs (91 + 12 * n) (2426 + 120 * n) Q (F0 m 33 ls [.int w]) := by
  have hx := C0.1
  have hb := C0.2.1
  have d33 := (by decide +kernel : decode code 33 = .ok (.tableswitch 949 0 25 #[119, 194, 207, 220, 253, 286, 309, 342, 375, 408, 441, 464, 527, 560, 573, 596, 619, 642, 685, 718, 751, 774, 787, 800, 843, 886], 119))
  by_cases hw : w.toInt < 0 ∨ 25 < w.toInt
  · refine lv_tableOut (tgt := 982) hx hb d33 hw (by decide) ?_
    exact lw_tail C0 hX hC hM hI hl (by omega) (by omega) ih
  · have h1 : ¬ w.toInt < 0 := fun h => hw (Or.inl h)
    have h2 : ¬ 25 < w.toInt := fun h => hw (Or.inr h)
    rcases (by omega : w.toInt = 0 ∨ w.toInt = 1 ∨ w.toInt = 2 ∨ w.toInt = 3 ∨ w.toInt = 4 ∨ w.toInt = 5 ∨ w.toInt = 6 ∨ w.toInt = 7 ∨ w.toInt = 8 ∨ w.toInt = 9 ∨ w.toInt = 10 ∨ w.toInt = 11 ∨ w.toInt = 12 ∨ w.toInt = 13 ∨ w.toInt = 14 ∨ w.toInt = 15 ∨ w.toInt = 16 ∨ w.toInt = 17 ∨ w.toInt = 18 ∨ w.toInt = 19 ∨ w.toInt = 20 ∨ w.toInt = 21 ∨ w.toInt = 22 ∨ w.toInt = 23 ∨ w.toInt = 24 ∨ w.toInt = 25) with h | h | h | h | h | h | h | h | h | h | h | h | h | h | h | h | h | h | h | h | h | h | h | h | h | h
    · exact lv_tableIn (tgt := 152) (off := 119) hx hb d33 h1 h2 (lw_offs (k := 0) h rfl) (by decide) (lw_c0 C0 hE hX hC hM hI hL hi hn hl ih)
    · exact lv_tableIn (tgt := 227) (off := 194) hx hb d33 h1 h2 (lw_offs (k := 1) h rfl) (by decide) (lw_c1 C0 hE hX hC hM hI hL hi hn hl ih)
    · exact lv_tableIn (tgt := 240) (off := 207) hx hb d33 h1 h2 (lw_offs (k := 2) h rfl) (by decide) (lw_c2 C0 hE hX hC hM hI hL hi hn hl ih)
    · exact lv_tableIn (tgt := 253) (off := 220) hx hb d33 h1 h2 (lw_offs (k := 3) h rfl) (by decide) (lw_c3 C0 hE hX hC hM hI hL hi hn hl ih)
    · exact lv_tableIn (tgt := 286) (off := 253) hx hb d33 h1 h2 (lw_offs (k := 4) h rfl) (by decide) (lw_c4 C0 hE hX hC hM hI hL hi hn hl ih)
    · exact lv_tableIn (tgt := 319) (off := 286) hx hb d33 h1 h2 (lw_offs (k := 5) h rfl) (by decide) (lw_c5 C0 hE hX hC hM hI hL hi hn hl ih)
    · exact lv_tableIn (tgt := 342) (off := 309) hx hb d33 h1 h2 (lw_offs (k := 6) h rfl) (by decide) (lw_c6 C0 hE hX hC hM hI hL hi hn hl ih)
    · exact lv_tableIn (tgt := 375) (off := 342) hx hb d33 h1 h2 (lw_offs (k := 7) h rfl) (by decide) (lw_c7 C0 hE hX hC hM hI hL hi hn hl ih)
    · exact lv_tableIn (tgt := 408) (off := 375) hx hb d33 h1 h2 (lw_offs (k := 8) h rfl) (by decide) (lw_c8 C0 hE hX hC hM hI hL hi hn hl ih)
    · exact lv_tableIn (tgt := 441) (off := 408) hx hb d33 h1 h2 (lw_offs (k := 9) h rfl) (by decide) (lw_c9 C0 hE hX hC hM hI hL hi hn hl ih)
    · exact lv_tableIn (tgt := 474) (off := 441) hx hb d33 h1 h2 (lw_offs (k := 10) h rfl) (by decide) (lw_c10 C0 hE hX hC hM hI hL hi hn hl ih)
    · exact lv_tableIn (tgt := 497) (off := 464) hx hb d33 h1 h2 (lw_offs (k := 11) h rfl) (by decide) (lw_c11 C0 hE hX hC hM hI hL hi hn hl ih)
    · exact lv_tableIn (tgt := 560) (off := 527) hx hb d33 h1 h2 (lw_offs (k := 12) h rfl) (by decide) (lw_c12 C0 hE hX hC hM hI hL hi hn hl ih)
    · exact lv_tableIn (tgt := 593) (off := 560) hx hb d33 h1 h2 (lw_offs (k := 13) h rfl) (by decide) (lw_c13 C0 hE hX hC hM hI hL hi hn hl ih)
    · exact lv_tableIn (tgt := 606) (off := 573) hx hb d33 h1 h2 (lw_offs (k := 14) h rfl) (by decide) (lw_c14 C0 hE hX hC hM hI hL hi hn hl ih)
    · exact lv_tableIn (tgt := 629) (off := 596) hx hb d33 h1 h2 (lw_offs (k := 15) h rfl) (by decide) (lw_c15 C0 hE hX hC hM hI hL hi hn hl ih)
    · exact lv_tableIn (tgt := 652) (off := 619) hx hb d33 h1 h2 (lw_offs (k := 16) h rfl) (by decide) (lw_c16 C0 hE hX hC hM hI hL hi hn hl ih)
    · exact lv_tableIn (tgt := 675) (off := 642) hx hb d33 h1 h2 (lw_offs (k := 17) h rfl) (by decide) (lw_c17 C0 hE hX hC hM hI hL hi hn hl ih)
    · exact lv_tableIn (tgt := 718) (off := 685) hx hb d33 h1 h2 (lw_offs (k := 18) h rfl) (by decide) (lw_c18 C0 hE hX hC hM hI hL hi hn hl ih)
    · exact lv_tableIn (tgt := 751) (off := 718) hx hb d33 h1 h2 (lw_offs (k := 19) h rfl) (by decide) (lw_c19 C0 hE hX hC hM hI hL hi hn hl ih)
    · exact lv_tableIn (tgt := 784) (off := 751) hx hb d33 h1 h2 (lw_offs (k := 20) h rfl) (by decide) (lw_c20 C0 hE hX hC hM hI hL hi hn hl ih)
    · exact lv_tableIn (tgt := 807) (off := 774) hx hb d33 h1 h2 (lw_offs (k := 21) h rfl) (by decide) (lw_c21 C0 hE hX hC hM hI hL hi hn hl ih)
    · exact lv_tableIn (tgt := 820) (off := 787) hx hb d33 h1 h2 (lw_offs (k := 22) h rfl) (by decide) (lw_c22 C0 hE hX hC hM hI hL hi hn hl ih)
    · exact lv_tableIn (tgt := 833) (off := 800) hx hb d33 h1 h2 (lw_offs (k := 23) h rfl) (by decide) (lw_c23 C0 hE hX hC hM hI hL hi hn hl ih)
    · exact lv_tableIn (tgt := 876) (off := 843) hx hb d33 h1 h2 (lw_offs (k := 24) h rfl) (by decide) (lw_c24 C0 hE hX hC hM hI hL hi hn hl ih)
    · exact lv_tableIn (tgt := 919) (off := 886) hx hb d33 h1 h2 (lw_offs (k := 25) h rfl) (by decide) (lw_c25 C0 hE hX hC hM hI hL hi hn hl ih)
theorem lw_loop (C0 : lw_At p s m meth c b L xs) (hE : iE g (lwA s) s s.heap) (hL : L ≤ 3584) : ∀ (t n : Nat) (z : aZ) (M : mM) (H : Heap) (locs : List Loc) (ls : Array Slot), n + t = 512 → RpC M z → RpM M z → zInv z → iSt g (lwA s) s (mWs g.1 g.2.2.1 mSH M) H locs → lv_has ls 4 [(3, .int (nI (7 * n))), (2, .ref (g.1 50)), (1, .ref (g.1 0)), (0, .ref b)] → W p l e room_1 s m #[Value.ref b] below meth c H locs (91 + 12 * n) (2426 + 120 * n) (lw_Z below #[Value.ref b] s) (F0 m 18 ls [])
  | 0, n, z, M, H, locs, ls, ht, hC, hM, hI, hX, hl => lw_head C0 hX hl hL (by omega) (by omega) (by omega) (fun h => absurd h (by omega))
  | t + 1, n, z, M, H, locs, ls, ht, hC, hM, hI, hX, hl => lw_head C0 hX hl hL (by omega) (by omega) (by omega) (fun h => lw_turn C0 hE hX hC hM hI hL h (by omega) hl (fun z' M' H' locs' ls' a1 a2 a3 a4 a5 => lw_loop C0 hE hL t (n + 1) z' M' H' locs' ls' (by omega) a1 a2 a3 a4 a5) _)
end LAW
set_option maxHeartbeats 4000000 in
/-- from the entry, for every script of at most 3584 ints, the law comes to its end with true -/
theorem whole_start {p : Program} {e : Env} {s : State} {m : MethodId} {below : List Frame} {meth : Method} {c : Code} (l : Launch) (hflags : l.flags = flags0) {b L : Nat} {xs : Nat → Int32} (hL : L ≤ 3584) (C0 : lw_At p s m meth c b L xs) : W p l e room_1 s m #[Value.ref b] below meth c s.heap [] 0 0 (lw_Z below #[Value.ref b] s) (entryFrame m ([Value.ref b] : List Value).toArray 4) := by
  have S := lw_fix C0
  have C1 := id C0
  obtain ⟨hx, hb, hr, hml, hown, hts, hXs, hbl, hlocks, hgv⟩ := C1
  obtain ⟨g, hg0, hE⟩ := st_env hts hgv
  have hm : ∀ w ∈ mGW, w.before #[Value.ref b] s = true := fun w h => hts w (mGW_good w h).1
  have hl := lv_entry ([.ref b]) (n := 4) (Nat.le_of_ble_eq_true rfl)
  rw [lg_entry_eq]
  generalize (lg_sl ([.ref b]) ++ List.replicate (4 - (lg_sl ([.ref b])).length) Slot.unset).toArray = ls at hl ⊢
  have hl : lv_has ls 4 [(0, .ref b)] := hl
  have hP0 : va_P g.2.1 vwCl [] s.heap := fun k q h => by simp at h
  have hD0 : va_D (lwA s) [] := ⟨fun i j p q h => by simp at h, fun k q h => by simp at h⟩
  have hS0 : va_S (lwA s) s.heap s.heap [] := va_S.rf
  refine va_new (ci := 9) (fs := [.null, .null, .null, .null, .null, .null, .null, .int 0]) (C := RX7) (T := TX7) (N := 8) hx hb hm wu_RX7 tyX7 tyX7_ok hown (hm _ (mIn 21 (by decide +kernel) rfl)) (hm _ (mIn 22 (by decide +kernel) rfl)) (hm _ wn_RX7) hE.1.1 hP0 hD0 hS0 (fun _ h => h) rfl (fun j hj => by
    have hj : j < 8 := hj
    rcases (by omega : j = 0 ∨ j = 1 ∨ j = 2 ∨ j = 3 ∨ j = 4 ∨ j = 5 ∨ j = 6 ∨ j = 7) with rfl | rfl | rfl | rfl | rfl | rfl | rfl | rfl <;> rfl) (Nat.le_of_ble_eq_true rfl) (Nat.le_of_ble_eq_true rfl) (by decide +kernel : decode code 0 = .ok (.new 7, 3)) (fun q0 H hP hD hS => ?_)
  refine lv_dup hx hb (by decide +kernel : decode code 3 = .ok (.dup, 1)) rfl ?_
  refine iCall (av := []) (X := []) S i_X7_init ⟨rfl, rfl⟩ ⟨Nat.le_of_ble_eq_true rfl, Nat.le_of_ble_eq_true rfl⟩ wc_X7_init (Or.inl wk_RL_9) wi_X7_init wn_RX7 rfl wd_X7_init hE (fun _ h => h) hP hD hS hl.1 (Nat.le_of_ble_eq_true rfl) (by decide +kernel : decode code 4 = .ok (.invokespecial 9, 3)) ⟨Nat.le_of_ble_eq_true rfl, Nat.le_of_ble_eq_true rfl⟩ (fun a1 Mc H locs ha1 hC hP hD hS => ?_)
  rw [← ha1]
  refine lv_astore_n (lv' := [(1, .ref (a1 0)), (0, .ref b)]) hx hb (by decide +kernel : decode code 7 = .ok (.astore_n 1, 1)) rfl hl (by decide) rfl (fun ls hl => ?_)
  refine va_new (ci := 10) (fs := [.int 0, .null, .null, .null, .null, .int 0, .int 0, .int 0, .int 0, .int 0, .int 0, .int 0, .int 0, .int 0, .int 0, .int 0, .null, .null, .null, .int 0, .null, .null, .null, .null, .null, .null, .int 0, .int 0, .int 0, .int 0, .int 0, .null, .null, .int 0, .int 0, .int 0, .int 0, .int 0, .int 0, .int 0, .int 0, .int 0, .null, .null, .null, .null, .null]) (C := RX8) (T := TX8) (N := 47) hx hb hm wu_RX8 tyX8 tyX8_ok hown (hm _ (mIn 1018 (by decide +kernel) rfl)) (hm _ (mIn 1019 (by decide +kernel) rfl)) (hm _ wn_RX8) hE.1.1 hP hD hS (fun _ h => h) rfl (fun j hj => by
    have hj : j < 47 := hj
    rcases (by omega : j = 0 ∨ j = 1 ∨ j = 2 ∨ j = 3 ∨ j = 4 ∨ j = 5 ∨ j = 6 ∨ j = 7 ∨ j = 8 ∨ j = 9 ∨ j = 10 ∨ j = 11 ∨ j = 12 ∨ j = 13 ∨ j = 14 ∨ j = 15 ∨ j = 16 ∨ j = 17 ∨ j = 18 ∨ j = 19 ∨ j = 20 ∨ j = 21 ∨ j = 22 ∨ j = 23 ∨ j = 24 ∨ j = 25 ∨ j = 26 ∨ j = 27 ∨ j = 28 ∨ j = 29 ∨ j = 30 ∨ j = 31 ∨ j = 32 ∨ j = 33 ∨ j = 34 ∨ j = 35 ∨ j = 36 ∨ j = 37 ∨ j = 38 ∨ j = 39 ∨ j = 40 ∨ j = 41 ∨ j = 42 ∨ j = 43 ∨ j = 44 ∨ j = 45 ∨ j = 46) with rfl | rfl | rfl | rfl | rfl | rfl | rfl | rfl | rfl | rfl | rfl | rfl | rfl | rfl | rfl | rfl | rfl | rfl | rfl | rfl | rfl | rfl | rfl | rfl | rfl | rfl | rfl | rfl | rfl | rfl | rfl | rfl | rfl | rfl | rfl | rfl | rfl | rfl | rfl | rfl | rfl | rfl | rfl | rfl | rfl | rfl | rfl <;> rfl) (Nat.le_of_ble_eq_true rfl) (Nat.le_of_ble_eq_true rfl) (by decide +kernel : decode code 8 = .ok (.new 10, 3)) (fun h0 H hP hD hS => ?_)
  have hX1 : iSt g (lwA s) s (mWs a1 g.2.2.1 cSH Mc ++ [(h0, .inr (10, [.int 0, .null, .null, .null, .null, .int 0, .int 0, .int 0, .int 0, .int 0, .int 0, .int 0, .int 0, .int 0, .int 0, .int 0, .null, .null, .null, .int 0, .null, .null, .null, .null, .null, .null, .int 0, .int 0, .int 0, .int 0, .int 0, .null, .null, .int 0, .int 0, .int 0, .int 0, .int 0, .int 0, .int 0, .int 0, .int 0, .null, .null, .null, .null, .null]))]) H locs := ⟨hP, hD, hS⟩
  refine lv_dup hx hb (by decide +kernel : decode code 11 = .ok (.dup, 1)) rfl ?_
  have hX2 : iSt g (lwA s) s ((h0, .inr (10, [.int 0, .null, .null, .null, .null, .int 0, .int 0, .int 0, .int 0, .int 0, .int 0, .int 0, .int 0, .int 0, .int 0, .int 0, .null, .null, .null, .int 0, .null, .null, .null, .null, .null, .null, .int 0, .int 0, .int 0, .int 0, .int 0, .null, .null, .int 0, .int 0, .int 0, .int 0, .int 0, .int 0, .int 0, .int 0, .int 0, .null, .null, .null, .null, .null])) :: mWs a1 g.2.2.1 cSH Mc) H locs := hX1.swap0
  refine vCallI (X := []) (q := h0) (av := []) (rest := [.ref h0]) S hE (fun _ h => h) hX2 v_initM (fun _ h => h) ⟨rfl, rfl⟩ ⟨Nat.le_of_ble_eq_true rfl, Nat.le_of_ble_eq_true rfl⟩ wc_X8_init wk_RL_12 wi_X8_init wn_RX8 rfl wd_X8_init hl.1 (Nat.le_of_ble_eq_true rfl) (by decide +kernel : decode code 12 = .ok (.invokespecial 12, 3)) ⟨Nat.le_of_ble_eq_true rfl, Nat.le_of_ble_eq_true rfl⟩ (fun v ws1 H locs hPo hX => ?_)
  obtain ⟨rfl, a2, M, rfl, hM, hk, h50⟩ := hPo
  have h00 := (hk 0 (by decide)).1
  refine lv_astore_n (lv' := [(2, .ref h0), (1, .ref (a1 0)), (0, .ref b)]) hx hb (by decide +kernel : decode code 15 = .ok (.astore_n 2, 1)) rfl hl (by decide) rfl (fun ls hl => ?_)
  refine lv_iconst (v := nI 0) hx hb (by decide +kernel : decode code 16 = .ok (.iconst 0, 1)) (by decide) ?_
  refine lv_istore_n (lv' := [(3, .int (nI 0)), (2, .ref h0), (1, .ref (a1 0)), (0, .ref b)]) hx hb (by decide +kernel : decode code 17 = .ok (.istore_n 3, 1)) rfl hl (by decide) rfl (fun ls hl => ?_)
  have hE2 : iE (gN g 91 a2) (lwA s) s s.heap := ⟨mEnv_N (by decide) hE.1, hE.2.1, hE.2.2⟩
  have hX2 : iSt (gN g 91 a2) (lwA s) s (mWs (gN g 91 a2).1 (gN g 91 a2).2.2.1 mSH M) H locs := by
    show iSt g (lwA s) s (mWs (gN g 91 a2).1 g.2.2.1 mSH M) H locs
    rw [gN91]
    exact hX
  have hl2 : lv_has ls 4 [(3, .int (nI (7 * 0))), (2, .ref ((gN g 91 a2).1 50)), (1, .ref ((gN g 91 a2).1 0)), (0, .ref b)] := by
    rw [gN_lo (show 50 < 91 by decide), gN_lo (show 0 < 91 by decide), h50, h00]
    exact hl
  exact W.widen (by decide) (by decide) (lw_loop C0 hE2 hL 512 0 z0 M H locs ls rfl (RpC_fr50 hC (fun k hk2 => (hk k hk2).2)) hM zInv_0 hX2 hl2)
/-! ===== THE CLAIM ===== -/
set_option maxHeartbeats 4000000 in
theorem lw_walk (l : Launch) (hflags : l.flags = flags0) (b : Addr) (xs : List Int32) : MetFree l x (headSpec (Jvm.Cond.code x code maxLocals ret :: tables_1) room_1) (lw_P b xs) (fun _ _ _ _ _ => True) lw_Q := by
  refine MetFree.of_bodyS (code := code) (maxLocals := maxLocals) (ret := ret) (by decide) ?_ ?_
  · intro args s m h hn
    obtain ⟨meth, c, h1, h2, h3, h4, h5, h6, -, -⟩ := Cond.code_spec hn (atoms_spec (ws := Jvm.Cond.code x code maxLocals ret :: tables_1) h _ List.mem_cons_self)
    exact ⟨meth, c, h1, h2, h3, h4, h5, h6⟩
  · intro p e s m args below meth c s₁ B hml0 hP _
    obtain ⟨rfl, hx, hbd, hgv⟩ := hP
    obtain ⟨scr, harrAt, hlist, hof, hsmall⟩ := hx
    obtain ⟨hcb, hkn, -, -⟩ := State.arrayAt?_spec harrAt
    have hown : s.vm.findClass R_law = some m.cls := findClass_of_methodNamed B.named
    have hts0 : ∀ c ∈ (Jvm.Cond.code x code maxLocals ret :: tables_1), c.before #[Value.ref b] s = true := atoms_spec (ws := Jvm.Cond.code x code maxLocals ret :: tables_1) B.pre
    have hts : ∀ w ∈ lw_tbl, w.before #[Value.ref b] s = true := k2_hts_sels lw_privs (fun w hw => hts0 w (List.mem_cons_of_mem _ hw)) lw_privs_ok
    have hml : c.maxLocals = 4 := B.maxLocals_eq (hts0 _ List.mem_cons_self)
    have X₀ : Stand p l e room_1 s m #[Value.ref b] below meth c s₁ [] 0 0 := Stand.of_body B
    have hh0 : s₁.heap = s.heap := by rw [B.state]; rfl
    have hsz : scr.slots.size = xs.length := by rw [← Array.length_toList, hlist, List.length_map]
    have hval : ∀ j : Nat, j < xs.length → scr.slots[j]? = some (.int (xs.getD j 0)) := fun j hj => by
      rw [← Array.getElem?_toList, hlist]
      simp [hj]
    have hbl : b < s.heap.size := (Array.getElem?_eq_some_iff.mp hcb).1
    have hX : va_X b xs.length (fun j => xs.getD j 0) s s.heap := ⟨scr, hcb, hof, hkn, hsz, hval⟩
    have K : W p l e room_1 s m #[Value.ref b] below meth c s₁.heap [] 0 0 (lw_Z below #[Value.ref b] s) (entryFrame m ([Value.ref b] : List Value).toArray 4) := by
      rw [hh0]
      exact whole_start l hflags hbd ⟨B.exec, B.bytes, B.returns, hml, hown, hts, hX, hbl, B.notSynchronized, hgv⟩
    obtain ⟨t, a1, o, b1, b2, b3⟩ := K s₁ rfl X₀
    exact ⟨t, o, a1, b1, b2, b3⟩
theorem lw_pre_spec {args : Array Value} {s : State} (h : (Jvm.Cond.and given_1 narrow_1).before args s = true) (hr : rest_1_c.before args s = true) : ∃ (b : Addr) (xs : List Int32), lw_P b xs args s := by
  have hs := flat_of_before _ h
  have hq := flat_of_before _ hr
  have hc : (Cond.count 1).before args s = true := hs _ (by decide +kernel)
  have harr : (Cond.arrayOf (.arg 0) .int).before args s = true := hs _ (by decide +kernel)
  have hle : (Cond.le (.length (.arg 0)) (.int 3584)).before args s = true := hs _ (by decide +kernel)
  have hlen : (Cond.isInt (.length (.arg 0))).before args s = true := hq _ (by decide +kernel)
  have hall : (Cond.all (.arg 0) (.isInt (.elem (.arg 0) (.index 0)))).before args s = true := hq _ (by decide +kernel)
  obtain ⟨b, xs, hb, hx⟩ := State.ints_of_pre rfl harr hlen hall
  have hsm : xs.length < 2 ^ 31 := hx.choose_spec.2.2.2
  have hev : (Term.length (.arg 0)).eval args s none [] s = some (.int xs.length.toInt32) := hx.length_eval hb
  have hv := Cond.le_ints hev (show (Term.int 3584).eval args s none [] s = some (.int 3584) from rfl)
  have hd : xs.length.toInt32 ≤ 3584 := by
    simpa [Cond.before, Cond.holds, hv] using hle
  have hN : xs.length ≤ 3584 := (Int32.ofNat_le_ofNat hsm (by decide)).mp (show Int32.ofNat xs.length ≤ Int32.ofNat 3584 from hd)
  exact ⟨b, xs, Cond.one_arg hc (show args[0]? = some (.ref b) from hb), hx, hN, h⟩
theorem lw_comes (l : Launch) (hflags : l.flags = flags0) : Comes l x (Jvm.Cond.code x code maxLocals ret :: tables_1) room_1 (fun tb e args s => Calls_1 tb e args s ∧ rest_1 tb e args s ∧ Pre_1 tb e args s)
    (fun _ _ args s o t => lw_Q args s o t) := by
  intro p e ha hc hk s m args below hf hfit hheap happ hpre
  obtain ⟨b, xs, hP⟩ := lw_pre_spec hpre.2.2 hpre.2.1
  obtain ⟨k, o, h1, h2, h3, hQ⟩ := lw_walk l hflags b xs p e ha hc hk s m args below hf ((Spec.applies_iff_loose hf).mp happ).1 hP trivial
  exact ⟨k, o, h1, h2, h3, hQ⟩
theorem lw_frame {s t : State} {o : Outcome} {args : Array Value} (h : Framed s o t [] 600000 7302250) :
    Framed s o t (fieldLocs frame_1_writes args s ++ arrayLocs frame_1_arrays args s ++ staticLocs frame_1_statics s) 600000 7302250 := h
theorem lw_limb (L : Cond) (hL : ∀ (args : Array Value) (s t : State), L.after args s (.returned (some (.int 1))) t = true) :
    ArmFor flags0 classFile x code maxLocals ret World_1 tables_1 room_1 Calls_1 rest_1 Pre_1
      (fun tb e a s o t => postC L tb e a s o t ∧ Framed s o t (fieldLocs frame_1_writes a s ++ arrayLocs frame_1_arrays a s ++ staticLocs frame_1_statics s) 600000 7302250) := by
  intro l hflags _ _ p e ha hc hk s m args below hf hfit hheap happ hpre
  obtain ⟨k, o, h1, h2, h3, rfl, hF⟩ := lw_comes l hflags p e ha hc hk s m args below hf hfit hheap happ hpre
  exact ⟨k, _, h1, h2, h3, hL args s _, lw_frame hF⟩
theorem i_vc : Claimed_1_1 ∧ Claimed_1_2 := ⟨lw_limb limb_1_1 (fun args s t => by simp [limb_1_1, Cond.after, Cond.holds, Cond.value]), lw_limb limb_1_2 (fun args s t => Cond.after_iff.mpr (by
  first | (rw [show limb_1_2 = Cond.eq .result (.int 1) from rfl, Cond.eq_ints (x := 1) (y := 1) rfl rfl]; simp; done) | (simp [limb_1_2, Cond.value, Term.eval]; done)))⟩
