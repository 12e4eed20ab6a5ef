/-! ===== CONSTRUCTORS OF THE CLASS: the leaves ===== -/
theorem wi_obj : Cond.instanceMethod objectInit ∈ mGW := mIn 27 (by decide +kernel) rfl
theorem wc_obj : Cond.code objectInit ⟨#[0xb1]⟩ 1 none ∈ mGW := mIn 28 (by decide +kernel) rfl
theorem wa_int : Cond.arrayClass .int ∈ mGW := mIn 62 (by decide +kernel) rfl
theorem wa_byte : Cond.arrayClass .byte ∈ mGW := mIn 310 (by decide +kernel) rfl
def iS_X6 : List mH := [(13, 0, [some 1, none, none, none, none, none, none]), (0, 40, [])]
set_option maxHeartbeats 2000000 in
theorem i_X6_init : iOK yX6_init cX6_init 1 ({ frames := 1, cells := 1, slots := 40, locals := 48 } : Room) 1 40 [] 8 [.null, .int 0, .int 0, .int 0, .int 0, .int 0, .int 0] iS_X6 (fun M => M 0 1 = 0) := by
  refine iOK.of (by decide) rfl (fun h0 => Nat.le_of_ble_eq_true rfl) ?_
  intro p l e s m args below meth c ls g h0 C0 hX hsz hl
  refine iObj0 (idx := 3) C0 (lv_at hl 0 rfl) hsz (by decide +kernel : decode cX6_init 0 = .ok (.aload_n 0, 1)) (by decide +kernel : decode cX6_init 1 = .ok (.invokespecial 3, 3)) (mIn 34 (by decide +kernel) rfl) wi_obj wc_obj (Nat.le_of_ble_eq_true rfl) (Nat.le_of_ble_eq_true rfl) ?_
  refine i_arr (k := 0) (w := 2) (n := 40) C0 hX (lv_at hl 0 rfl) (by decide) (by decide +kernel) (Or.inl ⟨by decide +kernel, by decide, rfl⟩) (by decide +kernel) (by decide +kernel) fe_RX6_9 rfl rfl rfl rfl (Nat.le_of_ble_eq_true rfl) wa_int (Nat.le_of_ble_eq_true rfl) (Nat.le_of_ble_eq_true rfl) (fun q0 H locs hX => ?_)
  exact iRet (ad := fun k => [h0, q0].getD k 0) (M := fun _ _ => 0) id C0 hX (fun k hk => by
    have hk : k < 2 := hk
    rcases (by omega : k = 0 ∨ k = 1) with rfl | rfl <;> rfl) (fun _ _ _ _ h => h) rfl (rfl) (by decide +kernel : decode cX6_init 12 = .ok (.return_, 1)) (by decide) (by decide)

def iS_X0 : List mH := [(7, 0, [some 1, some 2, some 3, some 4, none]), (0, 90, []), (0, 90, []), (0, 90, []), (0, 90, [])]
set_option maxHeartbeats 2000000 in
theorem i_X0_init : iOK yX0_init cX0_init 1 ({ frames := 1, cells := 4, slots := 360, locals := 48 } : Room) 4 360 [] 2 [.null, .null, .null, .null, .int 0] iS_X0 (fun M => M 0 4 = 0) := by
  refine iOK.of (by decide) rfl (fun h0 => Nat.le_of_ble_eq_true rfl) ?_
  intro p l e s m args below meth c ls g h0 C0 hX hsz hl
  refine iObj0 (idx := 3) C0 (lv_at hl 0 rfl) hsz (by decide +kernel : decode cX0_init 0 = .ok (.aload_n 0, 1)) (by decide +kernel : decode cX0_init 1 = .ok (.invokespecial 3, 3)) (mIn 68 (by decide +kernel) rfl) wi_obj wc_obj (Nat.le_of_ble_eq_true rfl) (Nat.le_of_ble_eq_true rfl) ?_
  refine i_arr (k := 0) (w := 2) (n := 90) C0 hX (lv_at hl 0 rfl) (by decide) (by decide +kernel) (Or.inl ⟨by decide +kernel, by decide, rfl⟩) (by decide +kernel) (by decide +kernel) fe_RX0_9 rfl rfl rfl rfl (Nat.le_of_ble_eq_true rfl) wa_int (Nat.le_of_ble_eq_true rfl) (Nat.le_of_ble_eq_true rfl) (fun q0 H locs hX => ?_)
  refine i_arr (k := 1) (w := 2) (n := 90) C0 hX (lv_at hl 0 rfl) (by decide) (by decide +kernel) (Or.inl ⟨by decide +kernel, by decide, rfl⟩) (by decide +kernel) (by decide +kernel) fe_RX0_15 rfl rfl rfl rfl (Nat.le_of_ble_eq_true rfl) wa_int (Nat.le_of_ble_eq_true rfl) (Nat.le_of_ble_eq_true rfl) (fun q1 H locs hX => ?_)
  refine i_arr (k := 2) (w := 2) (n := 90) C0 hX (lv_at hl 0 rfl) (by decide) (by decide +kernel) (Or.inl ⟨by decide +kernel, by decide, rfl⟩) (by decide +kernel) (by decide +kernel) fe_RX0_18 rfl rfl rfl rfl (Nat.le_of_ble_eq_true rfl) wa_int (Nat.le_of_ble_eq_true rfl) (Nat.le_of_ble_eq_true rfl) (fun q2 H locs hX => ?_)
  refine i_arr (k := 3) (w := 2) (n := 90) C0 hX (lv_at hl 0 rfl) (by decide) (by decide +kernel) (Or.inl ⟨by decide +kernel, by decide, rfl⟩) (by decide +kernel) (by decide +kernel) fe_RX0_21 rfl rfl rfl rfl (Nat.le_of_ble_eq_true rfl) wa_int (Nat.le_of_ble_eq_true rfl) (Nat.le_of_ble_eq_true rfl) (fun q3 H locs hX => ?_)
  exact iRet (ad := fun k => [h0, q0, q1, q2, q3].getD k 0) (M := fun _ _ => 0) id C0 hX (fun k hk => by
    have hk : k < 5 := hk
    rcases (by omega : k = 0 ∨ k = 1 ∨ k = 2 ∨ k = 3 ∨ k = 4) with rfl | rfl | rfl | rfl | rfl <;> rfl) (fun _ _ _ _ h => h) rfl (rfl) (by decide +kernel : decode cX0_init 36 = .ok (.return_, 1)) (by decide) (by decide)

def iS_X1 : List mH := [(8, 0, [some 1, none, none, none, none, none, none, none]), (0, 10, [])]
set_option maxHeartbeats 2000000 in
theorem i_X1_init : iOK yX1_init cX1_init 1 ({ frames := 1, cells := 1, slots := 10, locals := 48 } : Room) 1 10 [] 3 [.null, .int 0, .int 0, .int 0, .int 0, .int 0, .int 0, .int 0] iS_X1 (fun _ => True) := by
  refine iOK.of (by decide) rfl (fun h0 => Nat.le_of_ble_eq_true rfl) ?_
  intro p l e s m args below meth c ls g h0 C0 hX hsz hl
  refine iObj0 (idx := 3) C0 (lv_at hl 0 rfl) hsz (by decide +kernel : decode cX1_init 0 = .ok (.aload_n 0, 1)) (by decide +kernel : decode cX1_init 1 = .ok (.invokespecial 3, 3)) (mIn 101 (by decide +kernel) rfl) wi_obj wc_obj (Nat.le_of_ble_eq_true rfl) (Nat.le_of_ble_eq_true rfl) ?_
  refine i_arr (k := 0) (w := 2) (n := 10) C0 hX (lv_at hl 0 rfl) (by decide) (by decide +kernel) (Or.inl ⟨by decide +kernel, by decide, rfl⟩) (by decide +kernel) (by decide +kernel) fe_RX1_9 rfl rfl rfl rfl (Nat.le_of_ble_eq_true rfl) wa_int (Nat.le_of_ble_eq_true rfl) (Nat.le_of_ble_eq_true rfl) (fun q0 H locs hX => ?_)
  exact iRet (ad := fun k => [h0, q0].getD k 0) (M := fun _ _ => 0) id C0 hX (fun k hk => by
    have hk : k < 2 := hk
    rcases (by omega : k = 0 ∨ k = 1) with rfl | rfl <;> rfl) (fun _ _ _ _ h => h) rfl (trivial) (by decide +kernel : decode cX1_init 12 = .ok (.return_, 1)) (by decide) (by decide)

def iS_X2 : List mH := [(9, 0, [some 1, some 2, some 3, some 4, some 5, some 6, some 7, none, none, none, none, none]), (0, 32, []), (0, 4, []), (0, 4, []), (0, 32, []), (0, 8, []), (0, 8, []), (0, 2, [])]
set_option maxHeartbeats 2000000 in
theorem i_X2_init : iOK yX2_init cX2_init 1 ({ frames := 1, cells := 7, slots := 90, locals := 48 } : Room) 7 90 [] 4 [.null, .null, .null, .null, .null, .null, .null, .int 0, .int 0, .int 0, .int 0, .int 0] iS_X2 (fun _ => True) := by
  refine iOK.of (by decide) rfl (fun h0 => Nat.le_of_ble_eq_true rfl) ?_
  intro p l e s m args below meth c ls g h0 C0 hX hsz hl
  refine iObj0 (idx := 3) C0 (lv_at hl 0 rfl) hsz (by decide +kernel : decode cX2_init 0 = .ok (.aload_n 0, 1)) (by decide +kernel : decode cX2_init 1 = .ok (.invokespecial 3, 3)) (mIn 146 (by decide +kernel) rfl) wi_obj wc_obj (Nat.le_of_ble_eq_true rfl) (Nat.le_of_ble_eq_true rfl) ?_
  refine i_arr (k := 0) (w := 2) (n := 32) C0 hX (lv_at hl 0 rfl) (by decide) (by decide +kernel) (Or.inl ⟨by decide +kernel, by decide, rfl⟩) (by decide +kernel) (by decide +kernel) fe_RX2_9 rfl rfl rfl rfl (Nat.le_of_ble_eq_true rfl) wa_int (Nat.le_of_ble_eq_true rfl) (Nat.le_of_ble_eq_true rfl) (fun q0 H locs hX => ?_)
  refine i_arr (k := 1) (w := 1) (n := 4) C0 hX (lv_at hl 0 rfl) (by decide) (by decide +kernel) (Or.inr ⟨⟨0, trivial⟩, ⟨4, by decide +kernel, by decide⟩, rfl⟩) (by decide +kernel) (by decide +kernel) fe_RX2_15 rfl rfl rfl rfl (Nat.le_of_ble_eq_true rfl) wa_int (Nat.le_of_ble_eq_true rfl) (Nat.le_of_ble_eq_true rfl) (fun q1 H locs hX => ?_)
  refine i_arr (k := 2) (w := 1) (n := 4) C0 hX (lv_at hl 0 rfl) (by decide) (by decide +kernel) (Or.inr ⟨⟨0, trivial⟩, ⟨4, by decide +kernel, by decide⟩, rfl⟩) (by decide +kernel) (by decide +kernel) fe_RX2_18 rfl rfl rfl rfl (Nat.le_of_ble_eq_true rfl) wa_int (Nat.le_of_ble_eq_true rfl) (Nat.le_of_ble_eq_true rfl) (fun q2 H locs hX => ?_)
  refine i_arr (k := 3) (w := 2) (n := 32) C0 hX (lv_at hl 0 rfl) (by decide) (by decide +kernel) (Or.inl ⟨by decide +kernel, by decide, rfl⟩) (by decide +kernel) (by decide +kernel) fe_RX2_21 rfl rfl rfl rfl (Nat.le_of_ble_eq_true rfl) wa_int (Nat.le_of_ble_eq_true rfl) (Nat.le_of_ble_eq_true rfl) (fun q3 H locs hX => ?_)
  refine i_arr (k := 4) (w := 2) (n := 8) C0 hX (lv_at hl 0 rfl) (by decide) (by decide +kernel) (Or.inl ⟨by decide +kernel, by decide, rfl⟩) (by decide +kernel) (by decide +kernel) fe_RX2_24 rfl rfl rfl rfl (Nat.le_of_ble_eq_true rfl) wa_int (Nat.le_of_ble_eq_true rfl) (Nat.le_of_ble_eq_true rfl) (fun q4 H locs hX => ?_)
  refine i_arr (k := 5) (w := 2) (n := 8) C0 hX (lv_at hl 0 rfl) (by decide) (by decide +kernel) (Or.inl ⟨by decide +kernel, by decide, rfl⟩) (by decide +kernel) (by decide +kernel) fe_RX2_27 rfl rfl rfl rfl (Nat.le_of_ble_eq_true rfl) wa_int (Nat.le_of_ble_eq_true rfl) (Nat.le_of_ble_eq_true rfl) (fun q5 H locs hX => ?_)
  refine i_arr (k := 6) (w := 1) (n := 2) C0 hX (lv_at hl 0 rfl) (by decide) (by decide +kernel) (Or.inr ⟨⟨0, trivial⟩, ⟨2, by decide +kernel, by decide⟩, rfl⟩) (by decide +kernel) (by decide +kernel) fe_RX2_30 rfl rfl rfl rfl (Nat.le_of_ble_eq_true rfl) wa_int (Nat.le_of_ble_eq_true rfl) (Nat.le_of_ble_eq_true rfl) (fun q6 H locs hX => ?_)
  exact iRet (ad := fun k => [h0, q0, q1, q2, q3, q4, q5, q6].getD k 0) (M := fun _ _ => 0) id C0 hX (fun k hk => by
    have hk : k < 8 := hk
    rcases (by omega : k = 0 ∨ k = 1 ∨ k = 2 ∨ k = 3 ∨ k = 4 ∨ k = 5 ∨ k = 6 ∨ k = 7) with rfl | rfl | rfl | rfl | rfl | rfl | rfl | rfl <;> rfl) (fun _ _ _ _ h => h) rfl (trivial) (by decide +kernel : decode cX2_init 57 = .ok (.return_, 1)) (by decide) (by decide)

def iS_X3 : List mH := [(10, 0, [some 1, none, none, none, none, none]), (0, 12, [])]
set_option maxHeartbeats 2000000 in
theorem i_X3_init : iOK yX3_init cX3_init 1 ({ frames := 1, cells := 1, slots := 12, locals := 48 } : Room) 1 12 [] 5 [.null, .int 0, .int 0, .int 0, .int 0, .int 0] iS_X3 (fun _ => True) := by
  refine iOK.of (by decide) rfl (fun h0 => Nat.le_of_ble_eq_true rfl) ?_
  intro p l e s m args below meth c ls g h0 C0 hX hsz hl
  refine iObj0 (idx := 3) C0 (lv_at hl 0 rfl) hsz (by decide +kernel : decode cX3_init 0 = .ok (.aload_n 0, 1)) (by decide +kernel : decode cX3_init 1 = .ok (.invokespecial 3, 3)) (mIn 199 (by decide +kernel) rfl) wi_obj wc_obj (Nat.le_of_ble_eq_true rfl) (Nat.le_of_ble_eq_true rfl) ?_
  refine i_arr (k := 0) (w := 2) (n := 12) C0 hX (lv_at hl 0 rfl) (by decide) (by decide +kernel) (Or.inl ⟨by decide +kernel, by decide, rfl⟩) (by decide +kernel) (by decide +kernel) fe_RX3_9 rfl rfl rfl rfl (Nat.le_of_ble_eq_true rfl) wa_int (Nat.le_of_ble_eq_true rfl) (Nat.le_of_ble_eq_true rfl) (fun q0 H locs hX => ?_)
  exact iRet (ad := fun k => [h0, q0].getD k 0) (M := fun _ _ => 0) id C0 hX (fun k hk => by
    have hk : k < 2 := hk
    rcases (by omega : k = 0 ∨ k = 1) with rfl | rfl <;> rfl) (fun _ _ _ _ h => h) rfl (trivial) (by decide +kernel : decode cX3_init 12 = .ok (.return_, 1)) (by decide) (by decide)

def iS_X4 : List mH := [(11, 0, [some 1, none, none]), (0, 40, [])]
set_option maxHeartbeats 2000000 in
theorem i_X4_init : iOK yX4_init cX4_init 1 ({ frames := 1, cells := 1, slots := 40, locals := 48 } : Room) 1 40 [] 6 [.null, .int 0, .int 0] iS_X4 (fun M => M 0 1 = -1 ∧ M 0 2 = 0) := by
  refine iOK.of (by decide) rfl (fun h0 => Nat.le_of_ble_eq_true rfl) ?_
  intro p l e s m args below meth c ls g h0 C0 hX hsz hl
  refine iObj0 (idx := 3) C0 (lv_at hl 0 rfl) hsz (by decide +kernel : decode cX4_init 0 = .ok (.aload_n 0, 1)) (by decide +kernel : decode cX4_init 1 = .ok (.invokespecial 3, 3)) (mIn 315 (by decide +kernel) rfl) wi_obj wc_obj (Nat.le_of_ble_eq_true rfl) (Nat.le_of_ble_eq_true rfl) ?_
  refine i_arr (k := 0) (w := 2) (n := 40) C0 hX (lv_at hl 0 rfl) (by decide) (by decide +kernel) (Or.inl ⟨by decide +kernel, by decide, rfl⟩) (by decide +kernel) (by decide +kernel) fe_RX4_9 rfl rfl rfl rfl (Nat.le_of_ble_eq_true rfl) wa_int (Nat.le_of_ble_eq_true rfl) (Nat.le_of_ble_eq_true rfl) (fun q0 H locs hX => ?_)
  refine lv_aload_n C0.1.1 C0.1.2.1 (by decide +kernel : decode cX4_init 12 = .ok (.aload_n 0, 1)) rfl (lv_at hl 0 rfl) ?_
  refine lv_iconst (v := -1) C0.1.1 C0.1.2.1 (by decide +kernel : decode cX4_init 13 = .ok (.iconst (-1), 1)) (by decide) ?_
  refine i_put (k := 1) (ty := .int) C0 hX fe_RX4_15 rfl rfl rfl (by decide) (by decide) (Nat.le_of_ble_eq_true rfl) (by decide +kernel) (fun H locs hX => ?_)
  exact iRet (ad := fun k => [h0, q0].getD k 0) (M := fun c j => if c = 0 ∧ j = 1 then -1 else 0) id C0 hX (fun k hk => by
    have hk : k < 2 := hk
    rcases (by omega : k = 0 ∨ k = 1) with rfl | rfl <;> rfl) (fun _ _ _ _ h => h) rfl (⟨rfl, rfl⟩) (by decide +kernel : decode cX4_init 17 = .ok (.return_, 1)) (by decide) (by decide)

set_option maxHeartbeats 2000000 in
theorem i_J5_init_d00df : iOK yJ5_init_d00df cJ5_init_d00df 2 ({ frames := 1, cells := 1, slots := 16, locals := 48 } : Room) 1 16 [.int 16] 1 [.null, .int 0, .int 0, .int 0] sSH (fun M => SBt M []) := by
  refine iOK.of (by decide) rfl (fun h0 => Nat.le_of_ble_eq_true rfl) ?_
  intro p l e s m args below meth c ls g h0 C0 hX hsz hl
  refine iObj0 (idx := 3) C0 (lv_at hl 0 rfl) hsz (by decide +kernel : decode cJ5_init_d00df 0 = .ok (.aload_n 0, 1)) (by decide +kernel : decode cJ5_init_d00df 1 = .ok (.invokespecial 3, 3)) (mIn 286 (by decide +kernel) rfl) wi_obj wc_obj (Nat.le_of_ble_eq_true rfl) (Nat.le_of_ble_eq_true rfl) ?_
  refine va_gets C0.1.1 C0.1.2.1 C0.2.2.2.2.1.1.2.2.2.2.1 hX.2.2 C0.1.2.2.2.1 (C0.1.2.2.2.2 _ (xIn (mIn 287 (by decide +kernel) rfl))) (fun _ z => z) (by decide +kernel : decode cJ5_init_d00df 4 = .ok (.getstatic 18, 3)) ?_
  refine lv_if_eq (tgt := 25) C0.1.1 C0.1.2.1 (by decide +kernel : decode cJ5_init_d00df 7 = .ok (.ifCond .eq 18, 3)) (by decide) (fun h => absurd h (by decide)) (fun _ => ?_)
  refine lv_aload_n C0.1.1 C0.1.2.1 (by decide +kernel : decode cJ5_init_d00df 10 = .ok (.aload_n 0, 1)) rfl (lv_at hl 0 rfl) ?_
  refine lv_iload_n C0.1.1 C0.1.2.1 (by decide +kernel : decode cJ5_init_d00df 11 = .ok (.iload_n 1, 1)) rfl (lv_at hl 1 rfl) ?_
  refine i_newa (t0 := 3) (n := 16) C0 hX wa_byte rfl (Or.inr ⟨rfl, rfl⟩) (by decide) (Nat.le_of_ble_eq_true rfl) (Nat.le_of_ble_eq_true rfl) (by decide +kernel : decode cJ5_init_d00df 12 = .ok (.newarray .byte, 2)) (fun q0 H hX => ?_)
  refine i_put (k := 0) (ty := .array .byte) (h0 := h0) C0 hX fe_RJ5_15 rfl rfl rfl rfl rfl (Nat.le_of_ble_eq_true rfl) (by decide +kernel : decode cJ5_init_d00df 14 = .ok (.putfield 15, 3)) (fun H locs hX => ?_)
  refine lv_aload_n C0.1.1 C0.1.2.1 (by decide +kernel : decode cJ5_init_d00df 17 = .ok (.aload_n 0, 1)) rfl (lv_at hl 0 rfl) ?_
  refine lv_iconst (v := 0) C0.1.1 C0.1.2.1 (by decide +kernel : decode cJ5_init_d00df 18 = .ok (.iconst 0, 1)) (by decide) ?_
  refine i_put (k := 1) (ty := .byte) (h0 := h0) C0 hX fe_RJ5_22 rfl rfl rfl (by decide) (by decide) (Nat.le_of_ble_eq_true rfl) (by decide +kernel : decode cJ5_init_d00df 19 = .ok (.putfield 22, 3)) (fun H locs hX => ?_)
  refine lv_goto (tgt := 38) C0.1.1 C0.1.2.1 (by decide +kernel : decode cJ5_init_d00df 22 = .ok (.goto 16, 3)) (by decide) ?_
  exact iRet (ad := fun k => [h0, q0].getD k 0) (M := fun _ _ => 0) id C0 hX (fun k hk => by
    have hk : k < 2 := hk
    rcases (by omega : k = 0 ∨ k = 1) with rfl | rfl <;> rfl) (fun _ _ _ _ h => h) rfl ⟨rfl, rfl, Nat.zero_le _, fun j hj => absurd hj (Nat.not_lt_zero j)⟩ (by decide +kernel : decode cJ5_init_d00df 38 = .ok (.return_, 1)) (by decide) (by decide)

set_option maxHeartbeats 2000000 in
theorem i_J4_init_da8c8 : iOK yJ4_init_da8c8 cJ4_init_da8c8 1 ({ frames := 2, cells := 1, slots := 16, locals := 96 } : Room) 1 16 [] 1 [.null, .int 0, .int 0, .int 0] sSH (fun M => SBt M []) := by
  refine iOK.of (by decide) rfl (fun h0 => Nat.le_of_ble_eq_true rfl) ?_
  intro p l e s m args below meth c ls g h0 C0 hX hsz hl
  refine lv_aload_n C0.1.1 C0.1.2.1 (by decide +kernel : decode cJ4_init_da8c8 0 = .ok (.aload_n 0, 1)) rfl (lv_at hl 0 rfl) ?_
  refine lv_bipush (v := 16) C0.1.1 C0.1.2.1 (by decide +kernel : decode cJ4_init_da8c8 1 = .ok (.bipush 16, 2)) (by decide) ?_
  refine iCall (av := [.int 16]) (X := []) C0.1 i_J5_init_d00df ⟨rfl, rfl⟩ ⟨Nat.le_of_ble_eq_true rfl, Nat.le_of_ble_eq_true rfl⟩ wc_J5_init_d00df (Or.inl wk_RJ4_1) wi_J5_init_d00df wn_RJ5 rfl wd_J5_init_d00df C0.2.2.2.2.1 C0.2.2.2.2.2 hX.1 hX.2.1 hX.2.2 hsz (by decide) (by decide +kernel : decode cJ4_init_da8c8 3 = .ok (.invokespecial 1, 3)) ⟨Nat.le_of_ble_eq_true rfl, Nat.le_of_ble_eq_true rfl⟩ (fun ad M H locs had hR0 hP hD hS => ?_)
  exact iRet id C0 ⟨hP, hD, hS⟩ (fun k hk => mWs_gd hk) (fun _ _ _ _ h => h) had hR0 (by decide +kernel : decode cJ4_init_da8c8 6 = .ok (.return_, 1)) (by decide) (by decide)

