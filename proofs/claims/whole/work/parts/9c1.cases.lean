/-! ===== THE LAW'S CASES 2 .. 5 ===== -/
section LAW
variable {p : Program} {l : Launch} {e : Env} {s : State} {m : MethodId} {below : List Frame} {meth : Method} {c : Code} {Q : State → Prop} {H : Heap} {locs : List Loc} {ls : Array Slot} {g : mG} {M : mM} {z : aZ} {b L i : Nat} {xs : Nat → Int32}
set_option maxHeartbeats 2000000 in
theorem lw_c2 {n : Nat} (C0 : lw_At p s m meth c b L xs) (hE : iE g (lwA s) s s.heap) (hX : iSt g (lwA s) s (mWs g.1 g.2.2.1 mSH M) H locs) (hC : RpC M z) (hM : RpM M z) (hI : zInv z) (hL : L ≤ 3584) (hi : i + 7 ≤ L) (hn : n < 512) (hl : lv_has ls 4 [(3, .int (nI i)), (2, .ref (g.1 50)), (1, .ref (g.1 0)), (0, .ref b)]) (ih : lwK p l e s m below meth c Q g b i (91 + 12 * (n + 1)) (2426 + 120 * (n + 1))) : W p l e room_1 s m #[Value.ref b] below meth c H locs (91 + 12 * n) (2426 + 120 * n) Q (F0 m 240 ls []) := by
  have hx := C0.1
  have hb := C0.2.1
  have hf : 91 + 12 * n + 12 ≤ 600000 ∧ 2426 + 120 * n + 120 ≤ 7302250 := by omega
  refine lv_aload_n hx hb (by decide +kernel : decode code 240 = .ok (.aload_n 1, 1)) rfl (lv_at hl 2 rfl) ?_
  refine lw_callC (as := []) C0 hE hX hC hM hI (xOKr.m ok_X7_undo) (fun _ h => xIn h) (by decide) (by decide) rfl rfl wc_X7_undo wk_RL_23 wi_X7_undo wl_X7_undo wn_RX7 wd_X7_undo hl.1 (Nat.le_of_ble_eq_true rfl) (by decide +kernel : decode code 241 = .ok (.invokevirtual 23, 3)) ⟨by omega, by omega⟩ (fun M H locs hC2 hM hX => ?_)
  refine lv_aload_n hx hb (by decide +kernel : decode code 244 = .ok (.aload_n 2, 1)) rfl (lv_at hl 1 rfl) ?_
  refine lw_callM (as := []) C0 hE hX hC2 hM hI (xOKr.m ok_X8_undo) (fun _ h => xIn h) (by decide) (by decide) rfl rfl wc_X8_undo wk_RL_26 wi_X8_undo wl_X8_undo wn_RX8 wd_X8_undo hl.1 (Nat.le_of_ble_eq_true rfl) (by decide +kernel : decode code 245 = .ok (.invokevirtual 26, 3)) ⟨by omega, by omega⟩ (fun M H locs hM2 hC3 hX => ?_)
  refine lv_icmp_eq (tgt := 982) hx hb (by decide +kernel : decode code 248 = .ok (.if_icmp .eq 734, 3)) (by decide) (fun _ => ?_) (fun h => absurd rfl h)
  exact lw_tail (z := (F_undo z []).2) C0 hX hC3 hM2 (inv_undo hI) hl (by omega) (by omega) ih
set_option maxHeartbeats 2000000 in
theorem lw_c3 {n : Nat} (C0 : lw_At p s m meth c b L xs) (hE : iE g (lwA s) s s.heap) (hX : iSt g (lwA s) s (mWs g.1 g.2.2.1 mSH M) H locs) (hC : RpC M z) (hM : RpM M z) (hI : zInv z) (hL : L ≤ 3584) (hi : i + 7 ≤ L) (hn : n < 512) (hl : lv_has ls 4 [(3, .int (nI i)), (2, .ref (g.1 50)), (1, .ref (g.1 0)), (0, .ref b)]) (ih : lwK p l e s m below meth c Q g b i (91 + 12 * (n + 1)) (2426 + 120 * (n + 1))) : W p l e room_1 s m #[Value.ref b] below meth c H locs (91 + 12 * n) (2426 + 120 * n) Q (F0 m 253 ls []) := by
  have hx := C0.1
  have hb := C0.2.1
  have hf : 91 + 12 * n + 12 ≤ 600000 ∧ 2426 + 120 * n + 120 ≤ 7302250 := by omega
  refine lv_aload_n hx hb (by decide +kernel : decode code 253 = .ok (.aload_n 1, 1)) rfl (lv_at hl 2 rfl) ?_
  refine lw_arg (j := 1) (w := 1) C0 hX hl hL hi (by decide) (by decide +kernel : decode code 254 = .ok (.aload_n 0, 1)) (by decide +kernel : decode code 255 = .ok (.iload_n 3, 1)) (Or.inl ⟨1, (by decide +kernel : decode code 256 = .ok (.iconst 1, 1)), by decide, rfl⟩) (by decide +kernel : decode code 257 = .ok (.iadd, 1)) (by decide +kernel : decode code 258 = .ok (.iaload, 1)) ?_
  refine lw_arg (j := 2) (w := 1) C0 hX hl hL hi (by decide) (by decide +kernel : decode code 259 = .ok (.aload_n 0, 1)) (by decide +kernel : decode code 260 = .ok (.iload_n 3, 1)) (Or.inl ⟨2, (by decide +kernel : decode code 261 = .ok (.iconst 2, 1)), by decide, rfl⟩) (by decide +kernel : decode code 262 = .ok (.iadd, 1)) (by decide +kernel : decode code 263 = .ok (.iaload, 1)) ?_
  refine lw_callC (as := [xs (i + 1), xs (i + 2)]) C0 hE hX hC hM hI (xOKr.m ok_X7_log) (fun _ h => xIn h) (by decide) (by decide) rfl rfl wc_X7_log wk_RL_27 wi_X7_log wl_X7_log wn_RX7 wd_X7_log hl.1 (Nat.le_of_ble_eq_true rfl) (by decide +kernel : decode code 264 = .ok (.invokevirtual 27, 3)) ⟨by omega, by omega⟩ (fun M H locs hC2 hM hX => ?_)
  refine lv_aload_n hx hb (by decide +kernel : decode code 267 = .ok (.aload_n 2, 1)) rfl (lv_at hl 1 rfl) ?_
  refine lw_arg (j := 1) (w := 1) C0 hX hl hL hi (by decide) (by decide +kernel : decode code 268 = .ok (.aload_n 0, 1)) (by decide +kernel : decode code 269 = .ok (.iload_n 3, 1)) (Or.inl ⟨1, (by decide +kernel : decode code 270 = .ok (.iconst 1, 1)), by decide, rfl⟩) (by decide +kernel : decode code 271 = .ok (.iadd, 1)) (by decide +kernel : decode code 272 = .ok (.iaload, 1)) ?_
  refine lw_arg (j := 2) (w := 1) C0 hX hl hL hi (by decide) (by decide +kernel : decode code 273 = .ok (.aload_n 0, 1)) (by decide +kernel : decode code 274 = .ok (.iload_n 3, 1)) (Or.inl ⟨2, (by decide +kernel : decode code 275 = .ok (.iconst 2, 1)), by decide, rfl⟩) (by decide +kernel : decode code 276 = .ok (.iadd, 1)) (by decide +kernel : decode code 277 = .ok (.iaload, 1)) ?_
  refine lw_callM (as := [xs (i + 1), xs (i + 2)]) C0 hE hX hC2 hM hI (xOKr.m ok_X8_log) (fun _ h => xIn h) (by decide) (by decide) rfl rfl wc_X8_log wk_RL_31 wi_X8_log wl_X8_log wn_RX8 wd_X8_log hl.1 (Nat.le_of_ble_eq_true rfl) (by decide +kernel : decode code 278 = .ok (.invokevirtual 31, 3)) ⟨by omega, by omega⟩ (fun M H locs hM2 hC3 hX => ?_)
  refine lv_icmp_eq (tgt := 982) hx hb (by decide +kernel : decode code 281 = .ok (.if_icmp .eq 701, 3)) (by decide) (fun _ => ?_) (fun h => absurd rfl h)
  exact lw_tail (z := (F_log z [xs (i + 1), xs (i + 2)]).2) C0 hX hC3 hM2 (show zInv z from hI) hl (by omega) (by omega) ih
set_option maxHeartbeats 2000000 in
theorem lw_c4 {n : Nat} (C0 : lw_At p s m meth c b L xs) (hE : iE g (lwA s) s s.heap) (hX : iSt g (lwA s) s (mWs g.1 g.2.2.1 mSH M) H locs) (hC : RpC M z) (hM : RpM M z) (hI : zInv z) (hL : L ≤ 3584) (hi : i + 7 ≤ L) (hn : n < 512) (hl : lv_has ls 4 [(3, .int (nI i)), (2, .ref (g.1 50)), (1, .ref (g.1 0)), (0, .ref b)]) (ih : lwK p l e s m below meth c Q g b i (91 + 12 * (n + 1)) (2426 + 120 * (n + 1))) : W p l e room_1 s m #[Value.ref b] below meth c H locs (91 + 12 * n) (2426 + 120 * n) Q (F0 m 286 ls []) := by
  have hx := C0.1
  have hb := C0.2.1
  have hf : 91 + 12 * n + 12 ≤ 600000 ∧ 2426 + 120 * n + 120 ≤ 7302250 := by omega
  refine lv_aload_n hx hb (by decide +kernel : decode code 286 = .ok (.aload_n 1, 1)) rfl (lv_at hl 2 rfl) ?_
  refine lw_arg (j := 1) (w := 1) C0 hX hl hL hi (by decide) (by decide +kernel : decode code 287 = .ok (.aload_n 0, 1)) (by decide +kernel : decode code 288 = .ok (.iload_n 3, 1)) (Or.inl ⟨1, (by decide +kernel : decode code 289 = .ok (.iconst 1, 1)), by decide, rfl⟩) (by decide +kernel : decode code 290 = .ok (.iadd, 1)) (by decide +kernel : decode code 291 = .ok (.iaload, 1)) ?_
  refine lw_arg (j := 2) (w := 1) C0 hX hl hL hi (by decide) (by decide +kernel : decode code 292 = .ok (.aload_n 0, 1)) (by decide +kernel : decode code 293 = .ok (.iload_n 3, 1)) (Or.inl ⟨2, (by decide +kernel : decode code 294 = .ok (.iconst 2, 1)), by decide, rfl⟩) (by decide +kernel : decode code 295 = .ok (.iadd, 1)) (by decide +kernel : decode code 296 = .ok (.iaload, 1)) ?_
  refine lw_callC (as := [xs (i + 1), xs (i + 2)]) C0 hE hX hC hM hI (xOKr.w ok_X7_print) (fun _ h => h) (by decide) (by decide) rfl rfl wc_X7_print wk_RL_32 wi_X7_print wl_X7_print wn_RX7 wd_X7_print hl.1 (Nat.le_of_ble_eq_true rfl) (by decide +kernel : decode code 297 = .ok (.invokevirtual 32, 3)) ⟨by omega, by omega⟩ (fun M H locs hC2 hM hX => ?_)
  refine lv_aload_n hx hb (by decide +kernel : decode code 300 = .ok (.aload_n 2, 1)) rfl (lv_at hl 1 rfl) ?_
  refine lw_arg (j := 1) (w := 1) C0 hX hl hL hi (by decide) (by decide +kernel : decode code 301 = .ok (.aload_n 0, 1)) (by decide +kernel : decode code 302 = .ok (.iload_n 3, 1)) (Or.inl ⟨1, (by decide +kernel : decode code 303 = .ok (.iconst 1, 1)), by decide, rfl⟩) (by decide +kernel : decode code 304 = .ok (.iadd, 1)) (by decide +kernel : decode code 305 = .ok (.iaload, 1)) ?_
  refine lw_arg (j := 2) (w := 1) C0 hX hl hL hi (by decide) (by decide +kernel : decode code 306 = .ok (.aload_n 0, 1)) (by decide +kernel : decode code 307 = .ok (.iload_n 3, 1)) (Or.inl ⟨2, (by decide +kernel : decode code 308 = .ok (.iconst 2, 1)), by decide, rfl⟩) (by decide +kernel : decode code 309 = .ok (.iadd, 1)) (by decide +kernel : decode code 310 = .ok (.iaload, 1)) ?_
  refine lw_callP C0 hE hX hM hI wk_RL_35 hl.1 (Nat.le_of_ble_eq_true rfl) (by decide +kernel : decode code 311 = .ok (.invokevirtual 35, 3)) hf (fun H locs hX => ?_)
  refine lv_icmp_eq (tgt := 982) hx hb (by decide +kernel : decode code 314 = .ok (.if_icmp .eq 668, 3)) (by decide) (fun _ => ?_) (fun h => absurd rfl h)
  exact lw_tail (z := (F_print z [xs (i + 1), xs (i + 2)]).2) C0 hX hC2 (show RpM M (F_print z [xs (i + 1), xs (i + 2)]).2 from hM) (show zInv z from hI) hl (by omega) (by omega) ih
set_option maxHeartbeats 2000000 in
theorem lw_c5 {n : Nat} (C0 : lw_At p s m meth c b L xs) (hE : iE g (lwA s) s s.heap) (hX : iSt g (lwA s) s (mWs g.1 g.2.2.1 mSH M) H locs) (hC : RpC M z) (hM : RpM M z) (hI : zInv z) (hL : L ≤ 3584) (hi : i + 7 ≤ L) (hn : n < 512) (hl : lv_has ls 4 [(3, .int (nI i)), (2, .ref (g.1 50)), (1, .ref (g.1 0)), (0, .ref b)]) (ih : lwK p l e s m below meth c Q g b i (91 + 12 * (n + 1)) (2426 + 120 * (n + 1))) : W p l e room_1 s m #[Value.ref b] below meth c H locs (91 + 12 * n) (2426 + 120 * n) Q (F0 m 319 ls []) := by
  have hx := C0.1
  have hb := C0.2.1
  have hf : 91 + 12 * n + 12 ≤ 600000 ∧ 2426 + 120 * n + 120 ≤ 7302250 := by omega
  refine lv_aload_n hx hb (by decide +kernel : decode code 319 = .ok (.aload_n 1, 1)) rfl (lv_at hl 2 rfl) ?_
  refine lw_arg (j := 1) (w := 1) C0 hX hl hL hi (by decide) (by decide +kernel : decode code 320 = .ok (.aload_n 0, 1)) (by decide +kernel : decode code 321 = .ok (.iload_n 3, 1)) (Or.inl ⟨1, (by decide +kernel : decode code 322 = .ok (.iconst 1, 1)), by decide, rfl⟩) (by decide +kernel : decode code 323 = .ok (.iadd, 1)) (by decide +kernel : decode code 324 = .ok (.iaload, 1)) ?_
  refine lw_callC (as := [xs (i + 1)]) C0 hE hX hC hM hI (xOKr.m ok_X7_told) (fun _ h => xIn h) (by decide) (by decide) rfl rfl wc_X7_told wk_RL_36 wi_X7_told wl_X7_told wn_RX7 wd_X7_told hl.1 (Nat.le_of_ble_eq_true rfl) (by decide +kernel : decode code 325 = .ok (.invokevirtual 36, 3)) ⟨by omega, by omega⟩ (fun M H locs hC2 hM hX => ?_)
  refine lv_aload_n hx hb (by decide +kernel : decode code 328 = .ok (.aload_n 2, 1)) rfl (lv_at hl 1 rfl) ?_
  refine lw_arg (j := 1) (w := 1) C0 hX hl hL hi (by decide) (by decide +kernel : decode code 329 = .ok (.aload_n 0, 1)) (by decide +kernel : decode code 330 = .ok (.iload_n 3, 1)) (Or.inl ⟨1, (by decide +kernel : decode code 331 = .ok (.iconst 1, 1)), by decide, rfl⟩) (by decide +kernel : decode code 332 = .ok (.iadd, 1)) (by decide +kernel : decode code 333 = .ok (.iaload, 1)) ?_
  refine lw_callM (as := [xs (i + 1)]) C0 hE hX hC2 hM hI (xOKr.m ok_X8_told) (fun _ h => xIn h) (by decide) (by decide) rfl rfl wc_X8_told wk_RL_40 wi_X8_told wl_X8_told wn_RX8 wd_X8_told hl.1 (Nat.le_of_ble_eq_true rfl) (by decide +kernel : decode code 334 = .ok (.invokevirtual 40, 3)) ⟨by omega, by omega⟩ (fun M H locs hM2 hC3 hX => ?_)
  refine lv_icmp_eq (tgt := 982) hx hb (by decide +kernel : decode code 337 = .ok (.if_icmp .eq 645, 3)) (by decide) (fun _ => ?_) (fun h => absurd rfl h)
  exact lw_tail (z := (F_told z [xs (i + 1)]).2) C0 hX hC3 hM2 (show zInv z from hI) hl (by omega) (by omega) ih
end LAW
