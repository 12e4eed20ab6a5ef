/-! ===== THE LAW'S CASES 19 .. 22 ===== -/
section LAW
variable {p : Program} {l : Launch} {e : Env} {s : State} {m : MethodId} {below : List Frame} {meth : Method} {c : Code} {Q : State → Prop} {H : Heap} {locs : List Loc} {ls : Array Slot} {g : mG} {M : mM} {z : aZ} {b L i : Nat} {xs : Nat → Int32}
set_option maxHeartbeats 2000000 in
theorem lw_c19 {n : Nat} (C0 : lw_At p s m meth c b L xs) (hE : iE g (lwA s) s s.heap) (hX : iSt g (lwA s) s (mWs g.1 g.2.2.1 mSH M) H locs) (hC : RpC M z) (hM : RpM M z) (hI : zInv z) (hL : L ≤ 3584) (hi : i + 7 ≤ L) (hn : n < 512) (hl : lv_has ls 4 [(3, .int (nI i)), (2, .ref (g.1 50)), (1, .ref (g.1 0)), (0, .ref b)]) (ih : lwK p l e s m below meth c Q g b i (91 + 12 * (n + 1)) (2426 + 120 * (n + 1))) : W p l e room_1 s m #[Value.ref b] below meth c H locs (91 + 12 * n) (2426 + 120 * n) Q (F0 m 751 ls []) := by
  have hx := C0.1
  have hb := C0.2.1
  have hf : 91 + 12 * n + 12 ≤ 600000 ∧ 2426 + 120 * n + 120 ≤ 7302250 := by omega
  refine lv_aload_n hx hb (by decide +kernel : decode code 751 = .ok (.aload_n 1, 1)) rfl (lv_at hl 2 rfl) ?_
  refine lw_arg (j := 1) (w := 1) C0 hX hl hL hi (by decide) (by decide +kernel : decode code 752 = .ok (.aload_n 0, 1)) (by decide +kernel : decode code 753 = .ok (.iload_n 3, 1)) (Or.inl ⟨1, (by decide +kernel : decode code 754 = .ok (.iconst 1, 1)), by decide, rfl⟩) (by decide +kernel : decode code 755 = .ok (.iadd, 1)) (by decide +kernel : decode code 756 = .ok (.iaload, 1)) ?_
  refine lw_arg (j := 2) (w := 1) C0 hX hl hL hi (by decide) (by decide +kernel : decode code 757 = .ok (.aload_n 0, 1)) (by decide +kernel : decode code 758 = .ok (.iload_n 3, 1)) (Or.inl ⟨2, (by decide +kernel : decode code 759 = .ok (.iconst 2, 1)), by decide, rfl⟩) (by decide +kernel : decode code 760 = .ok (.iadd, 1)) (by decide +kernel : decode code 761 = .ok (.iaload, 1)) ?_
  refine lw_callC (as := [xs (i + 1), xs (i + 2)]) C0 hE hX hC hM hI (xOKr.m ok_X7_tells) (fun _ h => xIn h) (by decide) (by decide) rfl rfl wc_X7_tells wk_RL_95 wi_X7_tells wl_X7_tells wn_RX7 wd_X7_tells hl.1 (Nat.le_of_ble_eq_true rfl) (by decide +kernel : decode code 762 = .ok (.invokevirtual 95, 3)) ⟨by omega, by omega⟩ (fun M H locs hC2 hM hX => ?_)
  refine lv_aload_n hx hb (by decide +kernel : decode code 765 = .ok (.aload_n 2, 1)) rfl (lv_at hl 1 rfl) ?_
  refine lw_arg (j := 1) (w := 1) C0 hX hl hL hi (by decide) (by decide +kernel : decode code 766 = .ok (.aload_n 0, 1)) (by decide +kernel : decode code 767 = .ok (.iload_n 3, 1)) (Or.inl ⟨1, (by decide +kernel : decode code 768 = .ok (.iconst 1, 1)), by decide, rfl⟩) (by decide +kernel : decode code 769 = .ok (.iadd, 1)) (by decide +kernel : decode code 770 = .ok (.iaload, 1)) ?_
  refine lw_arg (j := 2) (w := 1) C0 hX hl hL hi (by decide) (by decide +kernel : decode code 771 = .ok (.aload_n 0, 1)) (by decide +kernel : decode code 772 = .ok (.iload_n 3, 1)) (Or.inl ⟨2, (by decide +kernel : decode code 773 = .ok (.iconst 2, 1)), by decide, rfl⟩) (by decide +kernel : decode code 774 = .ok (.iadd, 1)) (by decide +kernel : decode code 775 = .ok (.iaload, 1)) ?_
  refine lw_callM (as := [xs (i + 1), xs (i + 2)]) C0 hE hX hC2 hM hI (xOKr.m ok_X8_tells) (fun _ h => xIn h) (by decide) (by decide) rfl rfl wc_X8_tells wk_RL_98 wi_X8_tells wl_X8_tells wn_RX8 wd_X8_tells hl.1 (Nat.le_of_ble_eq_true rfl) (by decide +kernel : decode code 776 = .ok (.invokevirtual 98, 3)) ⟨by omega, by omega⟩ (fun M H locs hM2 hC3 hX => ?_)
  refine lv_icmp_eq (tgt := 982) hx hb (by decide +kernel : decode code 779 = .ok (.if_icmp .eq 203, 3)) (by decide) (fun _ => ?_) (fun h => absurd rfl h)
  exact lw_tail (z := (F_tells z [xs (i + 1), xs (i + 2)]).2) C0 hX hC3 hM2 (show zInv z from hI) hl (by omega) (by omega) ih
set_option maxHeartbeats 2000000 in
theorem lw_c20 {n : Nat} (C0 : lw_At p s m meth c b L xs) (hE : iE g (lwA s) s s.heap) (hX : iSt g (lwA s) s (mWs g.1 g.2.2.1 mSH M) H locs) (hC : RpC M z) (hM : RpM M z) (hI : zInv z) (hL : L ≤ 3584) (hi : i + 7 ≤ L) (hn : n < 512) (hl : lv_has ls 4 [(3, .int (nI i)), (2, .ref (g.1 50)), (1, .ref (g.1 0)), (0, .ref b)]) (ih : lwK p l e s m below meth c Q g b i (91 + 12 * (n + 1)) (2426 + 120 * (n + 1))) : W p l e room_1 s m #[Value.ref b] below meth c H locs (91 + 12 * n) (2426 + 120 * n) Q (F0 m 784 ls []) := by
  have hx := C0.1
  have hb := C0.2.1
  have hf : 91 + 12 * n + 12 ≤ 600000 ∧ 2426 + 120 * n + 120 ≤ 7302250 := by omega
  refine lv_aload_n hx hb (by decide +kernel : decode code 784 = .ok (.aload_n 1, 1)) rfl (lv_at hl 2 rfl) ?_
  refine lw_arg (j := 1) (w := 1) C0 hX hl hL hi (by decide) (by decide +kernel : decode code 785 = .ok (.aload_n 0, 1)) (by decide +kernel : decode code 786 = .ok (.iload_n 3, 1)) (Or.inl ⟨1, (by decide +kernel : decode code 787 = .ok (.iconst 1, 1)), by decide, rfl⟩) (by decide +kernel : decode code 788 = .ok (.iadd, 1)) (by decide +kernel : decode code 789 = .ok (.iaload, 1)) ?_
  refine lw_callC (as := [xs (i + 1)]) C0 hE hX hC hM hI (xOKr.m ok_X7_film) (fun _ h => xIn h) (by decide) (by decide) rfl rfl wc_X7_film wk_RL_99 wi_X7_film wl_X7_film wn_RX7 wd_X7_film hl.1 (Nat.le_of_ble_eq_true rfl) (by decide +kernel : decode code 790 = .ok (.invokevirtual 99, 3)) ⟨by omega, by omega⟩ (fun M H locs hC2 hM hX => ?_)
  refine lv_aload_n hx hb (by decide +kernel : decode code 793 = .ok (.aload_n 2, 1)) rfl (lv_at hl 1 rfl) ?_
  refine lw_arg (j := 1) (w := 1) C0 hX hl hL hi (by decide) (by decide +kernel : decode code 794 = .ok (.aload_n 0, 1)) (by decide +kernel : decode code 795 = .ok (.iload_n 3, 1)) (Or.inl ⟨1, (by decide +kernel : decode code 796 = .ok (.iconst 1, 1)), by decide, rfl⟩) (by decide +kernel : decode code 797 = .ok (.iadd, 1)) (by decide +kernel : decode code 798 = .ok (.iaload, 1)) ?_
  refine lw_callM (as := [xs (i + 1)]) C0 hE hX hC2 hM hI (xOKr.m ok_X8_film) (fun _ h => xIn h) (by decide) (by decide) rfl rfl wc_X8_film wk_RL_102 wi_X8_film wl_X8_film wn_RX8 wd_X8_film hl.1 (Nat.le_of_ble_eq_true rfl) (by decide +kernel : decode code 799 = .ok (.invokevirtual 102, 3)) ⟨by omega, by omega⟩ (fun M H locs hM2 hC3 hX => ?_)
  refine lv_icmp_eq (tgt := 982) hx hb (by decide +kernel : decode code 802 = .ok (.if_icmp .eq 180, 3)) (by decide) (fun _ => ?_) (fun h => absurd rfl h)
  exact lw_tail (z := (F_film z [xs (i + 1)]).2) C0 hX hC3 hM2 (inv_film hI) hl (by omega) (by omega) ih
set_option maxHeartbeats 2000000 in
theorem lw_c21 {n : Nat} (C0 : lw_At p s m meth c b L xs) (hE : iE g (lwA s) s s.heap) (hX : iSt g (lwA s) s (mWs g.1 g.2.2.1 mSH M) H locs) (hC : RpC M z) (hM : RpM M z) (hI : zInv z) (hL : L ≤ 3584) (hi : i + 7 ≤ L) (hn : n < 512) (hl : lv_has ls 4 [(3, .int (nI i)), (2, .ref (g.1 50)), (1, .ref (g.1 0)), (0, .ref b)]) (ih : lwK p l e s m below meth c Q g b i (91 + 12 * (n + 1)) (2426 + 120 * (n + 1))) : W p l e room_1 s m #[Value.ref b] below meth c H locs (91 + 12 * n) (2426 + 120 * n) Q (F0 m 807 ls []) := by
  have hx := C0.1
  have hb := C0.2.1
  have hf : 91 + 12 * n + 12 ≤ 600000 ∧ 2426 + 120 * n + 120 ≤ 7302250 := by omega
  refine lv_aload_n hx hb (by decide +kernel : decode code 807 = .ok (.aload_n 1, 1)) rfl (lv_at hl 2 rfl) ?_
  refine lw_callC (as := []) C0 hE hX hC hM hI (xOKr.m ok_X7_image) (fun _ h => xIn h) (by decide) (by decide) rfl rfl wc_X7_image wk_RL_103 wi_X7_image wl_X7_image wn_RX7 wd_X7_image hl.1 (Nat.le_of_ble_eq_true rfl) (by decide +kernel : decode code 808 = .ok (.invokevirtual 103, 3)) ⟨by omega, by omega⟩ (fun M H locs hC2 hM hX => ?_)
  refine lv_aload_n hx hb (by decide +kernel : decode code 811 = .ok (.aload_n 2, 1)) rfl (lv_at hl 1 rfl) ?_
  refine lw_callM (as := []) C0 hE hX hC2 hM hI (xOKr.m ok_X8_image) (fun _ h => xIn h) (by decide) (by decide) rfl rfl wc_X8_image wk_RL_106 wi_X8_image wl_X8_image wn_RX8 wd_X8_image hl.1 (Nat.le_of_ble_eq_true rfl) (by decide +kernel : decode code 812 = .ok (.invokevirtual 106, 3)) ⟨by omega, by omega⟩ (fun M H locs hM2 hC3 hX => ?_)
  refine lv_icmp_eq (tgt := 982) hx hb (by decide +kernel : decode code 815 = .ok (.if_icmp .eq 167, 3)) (by decide) (fun _ => ?_) (fun h => absurd rfl h)
  exact lw_tail (z := (F_image z []).2) C0 hX hC3 hM2 (inv_image hI) hl (by omega) (by omega) ih
set_option maxHeartbeats 2000000 in
theorem lw_c22 {n : Nat} (C0 : lw_At p s m meth c b L xs) (hE : iE g (lwA s) s s.heap) (hX : iSt g (lwA s) s (mWs g.1 g.2.2.1 mSH M) H locs) (hC : RpC M z) (hM : RpM M z) (hI : zInv z) (hL : L ≤ 3584) (hi : i + 7 ≤ L) (hn : n < 512) (hl : lv_has ls 4 [(3, .int (nI i)), (2, .ref (g.1 50)), (1, .ref (g.1 0)), (0, .ref b)]) (ih : lwK p l e s m below meth c Q g b i (91 + 12 * (n + 1)) (2426 + 120 * (n + 1))) : W p l e room_1 s m #[Value.ref b] below meth c H locs (91 + 12 * n) (2426 + 120 * n) Q (F0 m 820 ls []) := by
  have hx := C0.1
  have hb := C0.2.1
  have hf : 91 + 12 * n + 12 ≤ 600000 ∧ 2426 + 120 * n + 120 ≤ 7302250 := by omega
  refine lv_aload_n hx hb (by decide +kernel : decode code 820 = .ok (.aload_n 1, 1)) rfl (lv_at hl 2 rfl) ?_
  refine lw_callC (as := []) C0 hE hX hC hM hI (xOKr.m ok_X7_back) (fun _ h => xIn h) (by decide) (by decide) rfl rfl wc_X7_back wk_RL_107 wi_X7_back wl_X7_back wn_RX7 wd_X7_back hl.1 (Nat.le_of_ble_eq_true rfl) (by decide +kernel : decode code 821 = .ok (.invokevirtual 107, 3)) ⟨by omega, by omega⟩ (fun M H locs hC2 hM hX => ?_)
  refine lv_aload_n hx hb (by decide +kernel : decode code 824 = .ok (.aload_n 2, 1)) rfl (lv_at hl 1 rfl) ?_
  refine lw_callM (as := []) C0 hE hX hC2 hM hI (xOKr.m ok_X8_back) (fun _ h => xIn h) (by decide) (by decide) rfl rfl wc_X8_back wk_RL_110 wi_X8_back wl_X8_back wn_RX8 wd_X8_back hl.1 (Nat.le_of_ble_eq_true rfl) (by decide +kernel : decode code 825 = .ok (.invokevirtual 110, 3)) ⟨by omega, by omega⟩ (fun M H locs hM2 hC3 hX => ?_)
  refine lv_icmp_eq (tgt := 982) hx hb (by decide +kernel : decode code 828 = .ok (.if_icmp .eq 154, 3)) (by decide) (fun _ => ?_) (fun h => absurd rfl h)
  exact lw_tail (z := (F_back z []).2) C0 hX hC3 hM2 (inv_back hI) hl (by omega) (by omega) ih
end LAW
