/-! ===== THE CLASS'S CONSTRUCTOR ===== -/
theorem fl_cons {P : Nat → Prop} {n : Nat} (h : P n) (t : ∀ k, k < n → P k) : ∀ k, k < n + 1 → P k := fun k hk => by
  by_cases e : k = n
  · rw [e]
    exact h
  · exact t k (by omega)
section ISTEPS
variable {p : Program} {l : Launch} {e : Env} {R : Room} {s : State} {m : MethodId} {args : Array Value} {below : List Frame} {meth : Method} {c : Code} {Q : State → Prop} {H : Heap} {locs : List Loc} {cells slots : Nat} {cc : ByteArray} {pc nL : Nat} {ls : Array Slot} {rest : List Value} {A : Nat → Prop} {own : String} {g : mG} {ci idx : Nat} {X : va_W}
theorem i_get {h0 k b : Nat} {fs : List Value} {v : Value} (C0 : iCx p s m args meth c cc nL own g A) (hX : iSt g A s ((h0, .inr (ci, fs)) :: X) H locs) (hF : mFldE own (idx, ci, k, b)) (hv : fs[k]? = some v)
    (hdg : decode cc pc = .ok (.getfield idx, 3)) (kk : W p l e R s m args below meth c H locs cells slots Q (F0 m (pc + 3) ls (v :: rest))) : W p l e R s m args below meth c H locs cells slots Q (F0 m pc ls (.ref h0 :: rest)) := by
  obtain ⟨⟨hx, hb, hml, hown, hts0⟩, hin, -, -, hE, hA⟩ := C0
  have hts : ∀ w ∈ mGW, w.before args s = true := fun w h => hts0 w (xIn h)
  obtain ⟨C', T', N', ty0, h1, h2, h3, h4, h5, h6, -⟩ := hF
  exact va_get hx hb hts h4 hown hE.1.1 hX.1 0 rfl h1 k h2 (hts _ h3) (fun _ h => h) hv hdg kk
theorem i_newq (C0 : iCx p s m args meth c cc nL own g A) (hX : iSt g A s X H locs) (hcl : Cond.classLink own idx RX4 ∈ mGW) {n : Nat} (hn : n < 65536) (hcells : cells + 1 ≤ R.cells) (hslots : slots + n ≤ R.slots) (hdg : decode cc pc = .ok (.anewarray idx, 3))
    (kk : ∀ (q : Nat) (H1 : Heap), iSt g A s (X ++ [(q, .inl (g.2.2.1 2, n, .inr (.inr (.inr (.inr (fun _ => none))))))]) H1 locs → W p l e R s m args below meth c H1 locs (cells + 1) (slots + n) Q (F0 m (pc + 3) ls (.ref q :: rest))) : W p l e R s m args below meth c H locs cells slots Q (F0 m pc ls (.int (nI n) :: rest)) := by
  obtain ⟨⟨hx, hb, hml, hown, hts0⟩, hin, -, -, hE, hA⟩ := C0
  refine va_newq (N' := n) hx hb hown (hts0 _ (xIn hcl)) hE.2.1 hE.1.1 hX.1 hX.2.1 hX.2.2 hA (nI_pos (by omega)) (nI_clamp (by omega)) (by omega) hcells hslots hdg (fun q cA H1 hK hP hD hS => ?_)
  obtain ⟨k1, c1, -, -, -, e1⟩ := (hK.2 4 (cA, .object RX4) rfl).2
  obtain ⟨k2, c2, -, -, -, e2⟩ := (hK.2 2 (g.2.2.1 2, .object RX4) rfl).2
  obtain rfl : cA = g.2.2.1 2 := Option.some.inj (e1.symm.trans e2)
  exact kk q H1 ⟨hP, hD, hS⟩
/-- one turn of the loop that makes the sheets -/
theorem i_turn {i h0 qA : Nat} {fs : List Value} {f : Nat → Option Nat} (hi : i < 4) (C0 : iCx p s m args meth c cX7_init 2 RX7 g A) (hX : iSt g A s ((h0, .inr (9, fs)) :: X) H locs) (hfs : fs[5]? = some (.ref qA)) (hq : ((h0, (Sum.inr (9, fs) : va_E)) :: X)[39]? = some (qA, .inl (g.2.2.1 2, 4, .inr (.inr (.inr (.inr f))))))
    (hl : lv_has ls 2 [(1, .int (nI i)), (0, .ref h0)]) (hR : 2 ≤ R.frames ∧ 68 ≤ R.locals) (hf : cells + 2 ≤ R.cells ∧ slots + 43 ≤ R.slots)
    (kk : ∀ (ad : Nat → Nat) (M : mM) (H' : Heap) (locs' : List Loc) (ls' : Array Slot), M 0 1 = -1 ∧ M 0 2 = 0 → iSt g A s ((((h0, .inr (9, fs)) :: X) ++ mWs ad g.2.2.1 iS_X4 M).set 39 (qA, .inl (g.2.2.1 2, 4, .inr (.inr (.inr (.inr (va_up f i (some (ad 0))))))))) H' locs' → lv_has ls' 2 [(1, .int (nI (i + 1))), (0, .ref h0)] → W p l e R s m args below meth c H' locs' (cells + 2) (slots + 43) Q (F0 m 80 ls' [])) :
    W p l e R s m args below meth c H locs cells slots Q (F0 m 80 ls []) := by
  have C1 := id C0
  obtain ⟨⟨hx, hb, hml, hown, hts0⟩, -⟩ := C1
  refine lv_iload_n hx hb (by decide +kernel : decode cX7_init 80 = .ok (.iload_n 1, 1)) rfl (lv_at hl 0 rfl) ?_
  refine lv_iconst (v := nI 4) hx hb (by decide +kernel : decode cX7_init 81 = .ok (.iconst 4, 1)) (by decide) ?_
  refine lv_icmp_ge (tgt := 104) hx hb (by decide +kernel : decode cX7_init 82 = .ok (.if_icmp .ge 22, 3)) (by decide) (fun h => absurd h (nI_ge hi (by decide))) (fun _ => ?_)
  refine lv_aload_n hx hb (by decide +kernel : decode cX7_init 85 = .ok (.aload_n 0, 1)) rfl (lv_at hl 1 rfl) ?_
  refine i_get C0 hX fe_RX7_38 hfs (by decide +kernel : decode cX7_init 86 = .ok (.getfield 38, 3)) ?_
  refine lv_iload_n hx hb (by decide +kernel : decode cX7_init 89 = .ok (.iload_n 1, 1)) rfl (lv_at hl 0 rfl) ?_
  refine iNew C0 hX i_X4_init ⟨rfl, rfl⟩ ⟨hR.1, hR.2⟩ rfl wu_RX4 tyX4 tyX4_ok (fun j hj => by
    have hj : j < 3 := hj
    rcases (by omega : j = 0 ∨ j = 1 ∨ j = 2) with rfl | rfl | rfl <;> rfl) (mIn 276 (by decide +kernel) rfl) (mIn 311 (by decide +kernel) rfl) wn_RX4 wc_X4_init (Or.inr ⟨_, wm_RX7_49⟩) wi_X4_init wn_RX4 rfl wd_X4_init hl.1 (Nat.le_of_ble_eq_true rfl) (by decide +kernel : decode cX7_init 90 = .ok (.new 36, 3)) (by decide +kernel : decode cX7_init 93 = .ok (.dup, 1)) (by decide +kernel : decode cX7_init 94 = .ok (.invokespecial 49, 3)) ⟨hf.1, hf.2⟩ (fun ad M H1 locs1 hM hX1 => ?_)
  refine va_astq (A := A) (H0 := s.heap) (ws := ((h0, (Sum.inr (9, fs) : va_E)) :: X) ++ mWs ad g.2.2.1 iS_X4 M) (a := qA) (v := ad 0) (f := f) (n := 4) (cA := g.2.2.1 2) (r := (RX4, TX4, 3)) (vs := mFld ad (M 0) 0 [some 1, none, none]) hx hb C0.2.2.2.2.1.1.1 hX1.1 hX1.2.1 hX1.2.2 39 2 (((h0, (Sum.inr (9, fs) : va_E)) :: X).length) 6 ?_ rfl ?_ rfl (vp_in_nI hi (by decide)) (by decide +kernel : decode cX7_init 97 = .ok (.aastore, 1)) (fun H2 locs2 hP hD hS => ?_)
  · rw [List.getElem?_append_left (List.getElem?_eq_some_iff.mp hq).1]
    exact hq
  · rw [List.getElem?_append_right (Nat.le_refl _), Nat.sub_self]
    rfl
  · refine lv_iinc (lv' := [(1, .int (nI (i + 1))), (0, .ref h0)]) hx hb (by decide +kernel : decode cX7_init 98 = .ok (.iinc 1 1, 3)) hl (k := 0) rfl (nI_add (a := i) (b := 1)) (by decide) rfl (fun ls2 hl2 => ?_)
    refine lv_goto (tgt := 80) hx hb (by decide +kernel : decode cX7_init 101 = .ok (.goto (-21), 3)) (by decide) ?_
    rw [nI_clamp (by omega)] at hP hD
    exact kk ad M H2 locs2 ls2 hM ⟨hP, hD, hS⟩ hl2
end ISTEPS
def cSH : List mH := [(14, 0, [some 1, some 3, some 8, some 13, some 26, some 39, some 48, none]), (13, 0, [some 2, none, none, none, none, none, none]), (0, 40, []), (7, 0, [some 4, some 5, some 6, some 7, none]), (0, 90, []), (0, 90, []), (0, 90, []), (0, 90, []), (7, 0, [some 9, some 10, some 11, some 12, none]), (0, 90, []), (0, 90, []), (0, 90, []), (0, 90, []), (12, 0, [some 14, some 16, some 24, none, none, none, none]), (8, 0, [some 15, none, none, none, none, none, none, none]), (0, 10, []), (9, 0, [some 17, some 18, some 19, some 20, some 21, some 22, some 23, none, none, none, none, none]), (0, 32, []), (0, 4, []), (0, 4, []), (0, 32, []), (0, 8, []), (0, 8, []), (0, 2, []), (10, 0, [some 25, none, none, none, none, none]), (0, 12, []), (12, 0, [some 27, some 29, some 37, none, none, none, none]), (8, 0, [some 28, none, none, none, none, none, none, none]), (0, 10, []), (9, 0, [some 30, some 31, some 32, some 33, some 34, some 35, some 36, none, none, none, none, none]), (0, 32, []), (0, 4, []), (0, 4, []), (0, 32, []), (0, 8, []), (0, 8, []), (0, 2, []), (10, 0, [some 38, none, none, none, none, none]), (0, 12, []), (2, 4, [some 40, some 42, some 44, some 46]), (11, 0, [some 41, none, none]), (0, 40, []), (11, 0, [some 43, none, none]), (0, 40, []), (11, 0, [some 45, none, none]), (0, 40, []), (11, 0, [some 47, none, none]), (0, 40, []), (6, 0, [some 49, none, none, none]), (3, 16, [])]
theorem cSH_take : mSH.take 50 = cSH := by decide +kernel
def z0 : aZ := ([], [], none, fun _ => (-1, 0, fun _ => 0))
set_option maxHeartbeats 8000000 in
set_option maxRecDepth 20000 in
theorem i_X7_init : iOK yX7_init cX7_init 2 ({ frames := 5, cells := 49, slots := 1263, locals := 240 } : Room) 49 1263 [] 9 [.null, .null, .null, .null, .null, .null, .null, .int 0] cSH (fun M => RpC M z0) := by
  refine iOK.of (by decide) rfl (fun h0 => Nat.le_of_ble_eq_true rfl) ?_
  intro p l e s m args below meth c ls g h0 C0 hX hsz hl
  refine iObj0 (idx := 1) C0 (lv_at hl 0 rfl) hsz (by decide +kernel : decode cX7_init 0 = .ok (.aload_n 0, 1)) (by decide +kernel : decode cX7_init 1 = .ok (.invokespecial 1, 3)) (mIn 26 (by decide +kernel) rfl) wi_obj wc_obj (Nat.le_of_ble_eq_true rfl) (Nat.le_of_ble_eq_true rfl) ?_
  refine i_obj (k := 0) (b := 2) (ty1 := (.object "TrickHouse$Tape")) C0 hX (lv_at hl 0 rfl) i_X6_init ⟨rfl, rfl⟩ ⟨Nat.le_of_ble_eq_true rfl, Nat.le_of_ble_eq_true rfl⟩ rfl wu_RX6 tyX6 tyX6_ok (fun j hj => by
    have hj : j < 7 := hj
    rcases (by omega : j = 0 ∨ j = 1 ∨ j = 2 ∨ j = 3 ∨ j = 4 ∨ j = 5 ∨ j = 6) with rfl | rfl | rfl | rfl | rfl | rfl | rfl <;> rfl) (mIn 29 (by decide +kernel) rfl) (mIn 30 (by decide +kernel) rfl) wn_RX6 wc_X6_init (Or.inr ⟨_, wm_RX7_9⟩) wi_X6_init wn_RX6 rfl wd_X6_init fe_RX7_10 rfl rfl rfl rfl (fun _ => rfl) (fun _ => rfl) (Nat.le_of_ble_eq_true rfl) hsz (by decide +kernel : decode cX7_init 4 = .ok (.aload_n 0, 1)) (by decide +kernel : decode cX7_init 5 = .ok (.new 7, 3)) (by decide +kernel : decode cX7_init 8 = .ok (.dup, 1)) (by decide +kernel : decode cX7_init 9 = .ok (.invokespecial 9, 3)) (by decide +kernel : decode cX7_init 12 = .ok (.putfield 10, 3)) ⟨Nat.le_of_ble_eq_true rfl, Nat.le_of_ble_eq_true rfl⟩ (fun at_ Mt H locs hMt hX => ?_)
  refine i_obj (k := 1) (b := 2) (ty1 := (.object "TrickHouse$ActLog")) C0 hX (lv_at hl 0 rfl) i_X0_init ⟨rfl, rfl⟩ ⟨Nat.le_of_ble_eq_true rfl, Nat.le_of_ble_eq_true rfl⟩ rfl wu_RX0 tyX0 tyX0_ok (fun j hj => by
    have hj : j < 5 := hj
    rcases (by omega : j = 0 ∨ j = 1 ∨ j = 2 ∨ j = 3 ∨ j = 4) with rfl | rfl | rfl | rfl | rfl <;> rfl) (mIn 63 (by decide +kernel) rfl) (mIn 64 (by decide +kernel) rfl) wn_RX0 wc_X0_init (Or.inr ⟨_, wm_RX7_18⟩) wi_X0_init wn_RX0 rfl wd_X0_init fe_RX7_19 rfl rfl rfl rfl (fun _ => rfl) (fun _ => rfl) (Nat.le_of_ble_eq_true rfl) hsz (by decide +kernel : decode cX7_init 15 = .ok (.aload_n 0, 1)) (by decide +kernel : decode cX7_init 16 = .ok (.new 16, 3)) (by decide +kernel : decode cX7_init 19 = .ok (.dup, 1)) (by decide +kernel : decode cX7_init 20 = .ok (.invokespecial 18, 3)) (by decide +kernel : decode cX7_init 23 = .ok (.putfield 19, 3)) ⟨Nat.le_of_ble_eq_true rfl, Nat.le_of_ble_eq_true rfl⟩ (fun aa_ Ma H locs hMa hX => ?_)
  refine i_obj (k := 2) (b := 2) (ty1 := (.object "TrickHouse$ActLog")) C0 hX (lv_at hl 0 rfl) i_X0_init ⟨rfl, rfl⟩ ⟨Nat.le_of_ble_eq_true rfl, Nat.le_of_ble_eq_true rfl⟩ rfl wu_RX0 tyX0 tyX0_ok (fun j hj => by
    have hj : j < 5 := hj
    rcases (by omega : j = 0 ∨ j = 1 ∨ j = 2 ∨ j = 3 ∨ j = 4) with rfl | rfl | rfl | rfl | rfl <;> rfl) (mIn 63 (by decide +kernel) rfl) (mIn 64 (by decide +kernel) rfl) wn_RX0 wc_X0_init (Or.inr ⟨_, wm_RX7_18⟩) wi_X0_init wn_RX0 rfl wd_X0_init fe_RX7_23 rfl rfl rfl rfl (fun _ => rfl) (fun _ => rfl) (Nat.le_of_ble_eq_true rfl) hsz (by decide +kernel : decode cX7_init 26 = .ok (.aload_n 0, 1)) (by decide +kernel : decode cX7_init 27 = .ok (.new 16, 3)) (by decide +kernel : decode cX7_init 30 = .ok (.dup, 1)) (by decide +kernel : decode cX7_init 31 = .ok (.invokespecial 18, 3)) (by decide +kernel : decode cX7_init 34 = .ok (.putfield 23, 3)) ⟨Nat.le_of_ble_eq_true rfl, Nat.le_of_ble_eq_true rfl⟩ (fun ai_ Mi H locs hMi hX => ?_)
  refine i_obj (k := 3) (b := 2) (ty1 := (.object "TrickHouse$Table")) C0 hX (lv_at hl 0 rfl) i_X5_init ⟨rfl, rfl⟩ ⟨Nat.le_of_ble_eq_true rfl, Nat.le_of_ble_eq_true rfl⟩ rfl wu_RX5 tyX5 tyX5_ok (fun j hj => by
    have hj : j < 7 := hj
    rcases (by omega : j = 0 ∨ j = 1 ∨ j = 2 ∨ j = 3 ∨ j = 4 ∨ j = 5 ∨ j = 6) with rfl | rfl | rfl | rfl | rfl | rfl | rfl <;> rfl) (mIn 90 (by decide +kernel) rfl) (mIn 91 (by decide +kernel) rfl) wn_RX5 wc_X5_init (Or.inl wk_RX7_28) wi_X5_init wn_RX5 rfl wd_X5_init fe_RX7_29 rfl rfl rfl rfl (fun _ => rfl) (fun _ => rfl) (Nat.le_of_ble_eq_true rfl) hsz (by decide +kernel : decode cX7_init 37 = .ok (.aload_n 0, 1)) (by decide +kernel : decode cX7_init 38 = .ok (.new 26, 3)) (by decide +kernel : decode cX7_init 41 = .ok (.dup, 1)) (by decide +kernel : decode cX7_init 42 = .ok (.invokespecial 28, 3)) (by decide +kernel : decode cX7_init 45 = .ok (.putfield 29, 3)) ⟨Nat.le_of_ble_eq_true rfl, Nat.le_of_ble_eq_true rfl⟩ (fun ar_ Mr H locs hMr hX => ?_)
  refine i_obj (k := 4) (b := 2) (ty1 := (.object "TrickHouse$Table")) C0 hX (lv_at hl 0 rfl) i_X5_init ⟨rfl, rfl⟩ ⟨Nat.le_of_ble_eq_true rfl, Nat.le_of_ble_eq_true rfl⟩ rfl wu_RX5 tyX5 tyX5_ok (fun j hj => by
    have hj : j < 7 := hj
    rcases (by omega : j = 0 ∨ j = 1 ∨ j = 2 ∨ j = 3 ∨ j = 4 ∨ j = 5 ∨ j = 6) with rfl | rfl | rfl | rfl | rfl | rfl | rfl <;> rfl) (mIn 90 (by decide +kernel) rfl) (mIn 91 (by decide +kernel) rfl) wn_RX5 wc_X5_init (Or.inl wk_RX7_28) wi_X5_init wn_RX5 rfl wd_X5_init fe_RX7_33 rfl rfl rfl rfl (fun _ => rfl) (fun _ => rfl) (Nat.le_of_ble_eq_true rfl) hsz (by decide +kernel : decode cX7_init 48 = .ok (.aload_n 0, 1)) (by decide +kernel : decode cX7_init 49 = .ok (.new 26, 3)) (by decide +kernel : decode cX7_init 52 = .ok (.dup, 1)) (by decide +kernel : decode cX7_init 53 = .ok (.invokespecial 28, 3)) (by decide +kernel : decode cX7_init 56 = .ok (.putfield 33, 3)) ⟨Nat.le_of_ble_eq_true rfl, Nat.le_of_ble_eq_true rfl⟩ (fun ah_ Mh H locs hMh hX => ?_)
  refine lv_aload_n C0.1.1 C0.1.2.1 (by decide +kernel : decode cX7_init 59 = .ok (.aload_n 0, 1)) rfl (lv_at hl 0 rfl) ?_
  refine lv_iconst (v := nI 4) C0.1.1 C0.1.2.1 (by decide +kernel : decode cX7_init 60 = .ok (.iconst 4, 1)) (by decide) ?_
  refine i_newq (n := 4) C0 hX (mIn 276 (by decide +kernel) rfl) (by decide) (Nat.le_of_ble_eq_true rfl) (Nat.le_of_ble_eq_true rfl) (by decide +kernel : decode cX7_init 61 = .ok (.anewarray 36, 3)) (fun qA H hX => ?_)
  refine i_putF (k := 5) (ty := .array (.object "TrickHouse$Sheet")) (h0 := h0) C0 hX fe_RX7_38 rfl rfl rfl rfl rfl rfl (Nat.le_of_ble_eq_true rfl) (by decide +kernel : decode cX7_init 64 = .ok (.putfield 38, 3)) (fun H locs hX => ?_)
  refine i_obj (k := 6) (b := 2) (ty1 := (.object "java/lang/StringBuilder")) C0 hX (lv_at hl 0 rfl) i_J4_init_da8c8 ⟨rfl, rfl⟩ ⟨Nat.le_of_ble_eq_true rfl, Nat.le_of_ble_eq_true rfl⟩ rfl wu_RJ4 tyJ4 tyJ4_ok (fun j hj => by
    have hj : j < 4 := hj
    rcases (by omega : j = 0 ∨ j = 1 ∨ j = 2 ∨ j = 3) with rfl | rfl | rfl | rfl <;> rfl) (mIn 278 (by decide +kernel) rfl) (mIn 279 (by decide +kernel) rfl) wn_RJ4 wc_J4_init_da8c8 (Or.inl wk_RX7_44) wi_J4_init_da8c8 wn_RJ4 rfl wd_J4_init_da8c8 fe_RX7_45 rfl rfl rfl rfl (fun _ => rfl) (fun _ => rfl) (Nat.le_of_ble_eq_true rfl) hsz (by decide +kernel : decode cX7_init 67 = .ok (.aload_n 0, 1)) (by decide +kernel : decode cX7_init 68 = .ok (.new 42, 3)) (by decide +kernel : decode cX7_init 71 = .ok (.dup, 1)) (by decide +kernel : decode cX7_init 72 = .ok (.invokespecial 44, 3)) (by decide +kernel : decode cX7_init 75 = .ok (.putfield 45, 3)) ⟨Nat.le_of_ble_eq_true rfl, Nat.le_of_ble_eq_true rfl⟩ (fun ab_ Mb H locs hMb hX => ?_)
  refine lv_iconst (v := nI 0) C0.1.1 C0.1.2.1 (by decide +kernel : decode cX7_init 78 = .ok (.iconst 0, 1)) (by decide) ?_
  refine lv_istore_n (lv' := [(1, .int (nI 0)), (0, .ref h0)]) C0.1.1 C0.1.2.1 (by decide +kernel : decode cX7_init 79 = .ok (.istore_n 1, 1)) rfl hl (by decide) rfl (fun ls hl => ?_)
  refine i_turn (i := 0) (h0 := h0) (qA := qA) (by decide) C0 hX rfl rfl hl ⟨Nat.le_of_ble_eq_true rfl, Nat.le_of_ble_eq_true rfl⟩ ⟨Nat.le_of_ble_eq_true rfl, Nat.le_of_ble_eq_true rfl⟩ (fun s0_ Ms0 H locs ls hMs0 hX hl => ?_)
  refine i_turn (i := 1) (h0 := h0) (qA := qA) (by decide) C0 hX rfl rfl hl ⟨Nat.le_of_ble_eq_true rfl, Nat.le_of_ble_eq_true rfl⟩ ⟨Nat.le_of_ble_eq_true rfl, Nat.le_of_ble_eq_true rfl⟩ (fun s1_ Ms1 H locs ls hMs1 hX hl => ?_)
  refine i_turn (i := 2) (h0 := h0) (qA := qA) (by decide) C0 hX rfl rfl hl ⟨Nat.le_of_ble_eq_true rfl, Nat.le_of_ble_eq_true rfl⟩ ⟨Nat.le_of_ble_eq_true rfl, Nat.le_of_ble_eq_true rfl⟩ (fun s2_ Ms2 H locs ls hMs2 hX hl => ?_)
  refine i_turn (i := 3) (h0 := h0) (qA := qA) (by decide) C0 hX rfl rfl hl ⟨Nat.le_of_ble_eq_true rfl, Nat.le_of_ble_eq_true rfl⟩ ⟨Nat.le_of_ble_eq_true rfl, Nat.le_of_ble_eq_true rfl⟩ (fun s3_ Ms3 H locs ls hMs3 hX hl => ?_)
  refine lv_iload_n C0.1.1 C0.1.2.1 (by decide +kernel : decode cX7_init 80 = .ok (.iload_n 1, 1)) rfl (lv_at hl 0 rfl) ?_
  refine lv_iconst (v := nI 4) C0.1.1 C0.1.2.1 (by decide +kernel : decode cX7_init 81 = .ok (.iconst 4, 1)) (by decide) ?_
  refine lv_icmp_ge (tgt := 104) C0.1.1 C0.1.2.1 (by decide +kernel : decode cX7_init 82 = .ok (.if_icmp .ge 22, 3)) (by decide) (fun _ => ?_) (fun h => absurd (nI_le (Nat.le_refl 4) (by decide)) h)
  have hf : va_up (va_up (va_up (va_up (fun _ => none) 0 (some (s0_ 0))) 1 (some (s1_ 0))) 2 (some (s2_ 0))) 3 (some (s3_ 0)) = fun j : Nat => (([some 40, some 42, some 44, some 46][j]?).getD none).map (fun k : Nat => [h0, at_ 0, at_ 1, aa_ 0, aa_ 1, aa_ 2, aa_ 3, aa_ 4, ai_ 0, ai_ 1, ai_ 2, ai_ 3, ai_ 4, ar_ 0, ar_ 1, ar_ 2, ar_ 3, ar_ 4, ar_ 5, ar_ 6, ar_ 7, ar_ 8, ar_ 9, ar_ 10, ar_ 11, ar_ 12, ah_ 0, ah_ 1, ah_ 2, ah_ 3, ah_ 4, ah_ 5, ah_ 6, ah_ 7, ah_ 8, ah_ 9, ah_ 10, ah_ 11, ah_ 12, qA, s0_ 0, s0_ 1, s1_ 0, s1_ 1, s2_ 0, s2_ 1, s3_ 0, s3_ 1, ab_ 0, ab_ 1].getD k 0) := funext fun j => by
    rcases (by omega : j = 0 ∨ j = 1 ∨ j = 2 ∨ j = 3 ∨ 4 ≤ j) with rfl | rfl | rfl | rfl | h
    · rfl
    · rfl
    · rfl
    · rfl
    · rw [va_up_ne _ _ (by omega), va_up_ne _ _ (by omega), va_up_ne _ _ (by omega), va_up_ne _ _ (by omega), List.getElem?_eq_none (by show 4 ≤ j; exact h)]
      rfl
  rw [hf] at hX
  have h1 := hX.1 2 (at_ 1, mEnt at_ g.2.2.1 (iS_X6.getD 1 (0, 0, [])) (Mt 1)) rfl
  have h2 := hX.1 41 (ab_ 1, mEnt ab_ g.2.2.1 (sSH.getD 1 (0, 0, [])) (Mb 1)) rfl
  have h3 := hX.1 49 (s3_ 1, mEnt s3_ g.2.2.1 (iS_X4.getD 1 (0, 0, [])) (Ms3 1)) rfl
  sorry
