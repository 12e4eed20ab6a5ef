/-! ===== print OF THE REFERENCE ===== -/
section PRINT
variable {p : Program} {l : Launch} {e : Env} {R : Room} {s : State} {m : MethodId} {args : Array Value} {below : List Frame} {meth : Method} {c : Code} {Q : State → Prop} {H : Heap} {locs : List Loc} {cells slots : Nat} {cc : ByteArray} {pc nL : Nat} {ls : Array Slot} {rest : List Value} {A : Nat → Prop} {ret : Option FieldType} {g : mG} {E : va_W} {M : mM} {u : List Int32} {x j : Nat}
theorem v_len (C0 : vCx p s m args meth c cc nL RX8 ret g A) (hx : vTxt g x u E) (hX : iSt g A s (mWs g.1 g.2.2.1 mSH M ++ E) H locs) (hR : 8 ≤ R.frames ∧ 400 ≤ R.locals) (hsz : ls.size = nL) (hrest : (rest.map fun v => v.category).sum ≤ 8) (hf : cells ≤ R.cells ∧ slots ≤ R.slots)
    (d1 : decode cc pc = .ok (.invokevirtual 225, 3))
    (kk : ∀ (H' : Heap) (locs' : List Loc), iSt g A s (mWs g.1 g.2.2.1 mSH M ++ E) H' locs' → W p l e R s m args below meth c H' locs' cells slots Q (F0 m (pc + 3) ls (.int (nI u.length) :: rest))) : W p l e R s m args below meth c H locs cells slots Q (F0 m pc ls (.ref x :: rest)) := by
  rcases hx with ⟨w, hw, rfl, rfl, rfl⟩ | ⟨a2, M2, rfl, rfl, c1, c0, c2⟩
  · rw [List.append_nil] at hX
    have hM := vOK.x0 (xOKr.m ok_J0_length_8abf5) (g := g) (a2 := g.1) (o2 := g.2.2.2.1) (as := [.inr (some (1000 + w))]) (M := M) (P := fun r M' => r = some (.inl (nI (wB w).length)) ∧ M' = M) (fun A U H h => h) ⟨w, ⟨hw, rfl⟩, fun v M' h => ⟨by rw [h.1], h.2⟩⟩
    refine vCallV (q := g.1 (1000 + w)) (av := []) (X := []) C0.1 C0.2.2.2.1 C0.2.2.2.2 hX hM (fun _ h => xIn h) ⟨rfl, rfl⟩ ⟨?_, ?_⟩ (v_recS (w := w) hw C0.2.2.2.1.1 hX.2.2) wc_J0_length_8abf5 wk_RX8_225 wi_J0_length_8abf5 wl_J0_length_8abf5 wn_RJ0 wd_J0_length_8abf5 hsz hrest d1 ⟨?_, ?_⟩ (fun v ws1 H' locs' hPo hX2 => ?_)
    · show 2 + 1 ≤ _; omega
    · show 8 + (1 + 11) + 48 * 2 ≤ _; omega
    · show cells + 0 ≤ _; omega
    · show slots + 0 ≤ _; omega
    · obtain ⟨r, M', rfl, ⟨rfl, rfl⟩, rfl⟩ := hPo
      exact kk H' locs' (by rw [List.append_nil]; exact hX2)
  · have hX1 : iSt g A s (mWs g.1 g.2.2.1 mSH M ++ mWs (gN g 4 a2).1 g.2.2.1 (sSH ++ stX u.length) M2) H locs := by
      rw [gN4]
      exact hX
    have hM := vOK.x (xOKr.w xok_J0_length_8abf5) (g := g) (a2 := (gN g 4 a2).1) (o2 := g.2.2.2.1.map (fun _ => 999)) (ex := stX u.length) (as := [.inr (some 2)]) (M := M2) (P := fun r M' => r = some (.inl (nI u.length)) ∧ M' = M2) (fun A U H h => mEnv_N (g := g) (n := 4) (ad := a2) (by decide) h) ⟨(2, u), ⟨rfl, Or.inr ⟨rfl, c1, c0, c2, [], rfl⟩⟩, fun v M' h => ⟨by rw [h.1], h.2⟩⟩
    refine vCallV (q := a2 2) (av := []) (X := mWs g.1 g.2.2.1 mSH M) C0.1 C0.2.2.2.1 C0.2.2.2.2 hX1 hM (fun _ h => h) ⟨rfl, rfl⟩ ⟨?_, ?_⟩ (va_recv (q := (RJ0, TJ0, 4)) (ci := 0) (q0 := 2) C0.2.2.2.1.1.1 hX1.r.1 rfl rfl) wc_J0_length_8abf5 wk_RX8_225 wi_J0_length_8abf5 wl_J0_length_8abf5 wn_RJ0 wd_J0_length_8abf5 hsz hrest d1 ⟨?_, ?_⟩ (fun v ws1 H' locs' hPo hX2 => ?_)
    · show 2 + 1 ≤ _; omega
    · show 8 + (1 + 11) + 48 * 2 ≤ _; omega
    · show cells + 0 ≤ _; omega
    · show slots + 0 ≤ _; omega
    · obtain ⟨r, M', rfl, ⟨rfl, rfl⟩, rfl⟩ := hPo
      rw [gN4] at hX2
      exact kk H' locs' hX2
theorem v_chr (C0 : vCx p s m args meth c cc nL RX8 ret g A) (hx : vTxt g x u E) (hX : iSt g A s (mWs g.1 g.2.2.1 mSH M ++ E) H locs) (hj : j < u.length) (hlo : sLo u) (hR : 8 ≤ R.frames ∧ 400 ≤ R.locals) (hsz : ls.size = nL) (hrest : (rest.map fun v => v.category).sum ≤ 8) (hf : cells ≤ R.cells ∧ slots ≤ R.slots)
    (d1 : decode cc pc = .ok (.invokevirtual 236, 3))
    (kk : ∀ (H' : Heap) (locs' : List Loc), iSt g A s (mWs g.1 g.2.2.1 mSH M ++ E) H' locs' → W p l e R s m args below meth c H' locs' cells slots Q (F0 m (pc + 3) ls (.int (u.getD j 0) :: rest))) : W p l e R s m args below meth c H locs cells slots Q (F0 m pc ls (.int (nI j) :: .ref x :: rest)) := by
  rcases hx with ⟨w, hw, rfl, rfl, rfl⟩ | ⟨a2, M2, rfl, rfl, c1, c0, c2⟩
  · rw [List.append_nil] at hX
    have hM := vOK.x0 (xOKr.m ok_J0_charAt_5068e) (g := g) (a2 := g.1) (o2 := g.2.2.2.1) (as := [.inr (some (1000 + w)), .inl (nI j)]) (M := M) (P := fun r M' => r = some (.inl ((wB w).getD j 0)) ∧ M' = M) (fun A U H h => h) ⟨(w, j), ⟨hw, rfl, hj⟩, fun v M' h => ⟨by rw [h.1], h.2⟩⟩
    refine vCallV (q := g.1 (1000 + w)) (av := [.int (nI j)]) (X := []) C0.1 C0.2.2.2.1 C0.2.2.2.2 hX hM (fun _ h => xIn h) ⟨rfl, rfl⟩ ⟨?_, ?_⟩ (v_recS (w := w) hw C0.2.2.2.1.1 hX.2.2) wc_J0_charAt_5068e wk_RX8_236 wi_J0_charAt_5068e wl_J0_charAt_5068e wn_RJ0 wd_J0_charAt_5068e hsz hrest d1 ⟨?_, ?_⟩ (fun v ws1 H' locs' hPo hX2 => ?_)
    · show 4 + 1 ≤ _; omega
    · show 8 + (2 + 11) + 48 * 4 ≤ _; omega
    · show cells + 0 ≤ _; omega
    · show slots + 0 ≤ _; omega
    · obtain ⟨r, M', rfl, ⟨rfl, rfl⟩, rfl⟩ := hPo
      exact kk H' locs' (by rw [List.append_nil]; exact hX2)
  · have hX1 : iSt g A s (mWs g.1 g.2.2.1 mSH M ++ mWs (gN g 4 a2).1 g.2.2.1 (sSH ++ stX u.length) M2) H locs := by
      rw [gN4]
      exact hX
    have hM := vOK.x (xOKr.w xok_J0_charAt_5068e) (g := g) (a2 := (gN g 4 a2).1) (o2 := g.2.2.2.1.map (fun _ => 999)) (ex := stX u.length) (as := [.inr (some 2), .inl (nI j)]) (M := M2) (P := fun r M' => r = some (.inl (u.getD j 0)) ∧ M' = M2) (fun A U H h => mEnv_N (g := g) (n := 4) (ad := a2) (by decide) h) ⟨(u, j), ⟨rfl, Or.inr ⟨rfl, c1, c0, c2, [], rfl⟩, hlo, hj⟩, fun v M' h => ⟨by rw [h.1], h.2⟩⟩
    refine vCallV (q := a2 2) (av := [.int (nI j)]) (X := mWs g.1 g.2.2.1 mSH M) C0.1 C0.2.2.2.1 C0.2.2.2.2 hX1 hM (fun _ h => h) ⟨rfl, rfl⟩ ⟨?_, ?_⟩ (va_recv (q := (RJ0, TJ0, 4)) (ci := 0) (q0 := 2) C0.2.2.2.1.1.1 hX1.r.1 rfl rfl) wc_J0_charAt_5068e wk_RX8_236 wi_J0_charAt_5068e wl_J0_charAt_5068e wn_RJ0 wd_J0_charAt_5068e hsz hrest d1 ⟨?_, ?_⟩ (fun v ws1 H' locs' hPo hX2 => ?_)
    · show 4 + 1 ≤ _; omega
    · show 8 + (2 + 11) + 48 * 4 ≤ _; omega
    · show cells + 0 ≤ _; omega
    · show slots + 0 ≤ _; omega
    · obtain ⟨r, M', rfl, ⟨rfl, rfl⟩, rfl⟩ := hPo
      rw [gN4] at hX2
      exact kk H' locs' hX2
theorem v_in {y1 y2 y3 : Int32} (C0 : vCx p s m args meth c cc nL RX8 ret g A) (hX : iSt g A s (mWs g.1 g.2.2.1 mSH M ++ E) H locs) (hR : 8 ≤ R.frames ∧ 400 ≤ R.locals) (hsz : ls.size = nL) (hrest : (rest.map fun v => v.category).sum ≤ 8) (hf : cells ≤ R.cells ∧ slots ≤ R.slots)
    (d1 : decode cc pc = .ok (.invokestatic 214, 3))
    (kk : ∀ (H' : Heap) (locs' : List Loc), iSt g A s (mWs g.1 g.2.2.1 mSH M ++ E) H' locs' → W p l e R s m args below meth c H' locs' cells slots Q (F0 m (pc + 3) ls (.int (fIn y1 y2 y3) :: rest))) : W p l e R s m args below meth c H locs cells slots Q (F0 m pc ls (.int y3 :: .int y2 :: .int y1 :: rest)) := by
  have hM := vOK.x0 (xOKr.m ok_X8_in) (g := g) (a2 := g.1) (o2 := g.2.2.2.1) (as := [.inl y1, .inl y2, .inl y3]) (M := M) (P := fun r M' => r = some (.inl (fIn y1 y2 y3)) ∧ M' = M) (fun A U H h => h) ⟨rfl, rfl⟩
  refine vCallS (X := E) (av := [.int y1, .int y2, .int y3]) C0.1 C0.2.2.2.1 C0.2.2.2.2 hX.swap0 hM (fun _ h => xIn h) ⟨rfl, rfl⟩ ⟨?_, ?_⟩ wc_X8_in wk_RX8_214 wt_X8_in wn_RX8 wd_X8_in hsz hrest d1 ⟨?_, ?_⟩ (fun v ws1 H' locs' hPo hX2 => ?_)
  · show 1 + 1 ≤ _; omega
  · show 8 + (3 + 11) + 48 * 1 ≤ _; omega
  · show cells + 0 ≤ _; omega
  · show slots + 0 ≤ _; omega
  · obtain ⟨r, M', rfl, ⟨rfl, rfl⟩, rfl⟩ := hPo
    exact kk H' locs' hX2.swap0
end PRINT
theorem fit_suit {T : aT} {a : aA} (k : fit T a) : (a.1 = 5 → ub a.2.2 < 5) ∧ (a.1 = 1 → ub a.2.2 < 5) := by
  obtain ⟨f, f0, f1, f2, f3, f4, f5, f6, f7, f8⟩ := k
  exact ⟨fun h => by have := (f5 h).2.2.1; omega, fun h => (f1 h).2.2.2⟩
theorem zInv.suit {z : aZ} (h : zInv z) {j : Nat} (hj : j < z.2.1.length) : ((eA z.2.1 j).1.1 = 5 → ub (eA z.2.1 j).1.2.2 < 5) ∧ ((eA z.2.1 j).1.1 = 1 → ub (eA z.2.1 j).1.2.2 < 5) := by
  obtain ⟨T, k⟩ := okL_at2 (l := lA z.2.1) h.2.1.2 (j := j) (a := (eA z.2.1 j).1) (by
    unfold lA eA
    rw [List.getElem?_map, List.getD_eq_getElem?_getD, List.getElem?_eq_getElem hj]
    rfl)
  exact fit_suit k
theorem eT_len (e : aA) (h : eOk e) : (eT e).length ≤ 15 := by
  have h1 := wB_len2 e.1 h.1
  have key : ∀ t : List Int32, t.length ≤ 8 - (if e.1 = 1 then 2 else 0) → (if e.2.1 = -1 then t else t ++ [nI 32] ++ gD 3 (ub e.2.1)).length ≤ 15 - (if e.1 = 1 then 2 else 0) := fun t ht => by
    by_cases hn : e.2.1 = -1
    · rw [if_pos hn]
      omega
    · have := gD_len (h.2.resolve_left hn)
      rw [if_neg hn, List.length_append, List.length_append]
      show _ + 1 + _ ≤ _
      split at ht <;> split <;> omega
  unfold eT
  dsimp only
  by_cases h5 : e.1 = 5
  · rw [if_pos h5] at h1
    have := key (wB e.1 ++ [nI 32] ++ [fLetter e.2.2]) (by
      rw [List.length_append, List.length_append]
      show _ + 1 + 1 ≤ _
      omega)
    rw [if_pos h5]
    split
    · omega
    · omega
  · rw [if_neg h5] at h1
    have := key (wB e.1) (by omega)
    rw [if_neg h5]
    split
    · rename_i h6
      rw [if_pos h6] at this
      rw [List.length_append, List.length_append]
      show _ + 1 + 1 ≤ 15
      omega
    · omega
theorem fIn_out {y : Int32} {n : Nat} (hn : n ≤ 90) (h : y < 0 ∨ nI n ≤ y) : fIn y (nI 0) (nI n - nI 1) = nI 0 := by
  have e : (nI n - nI 1).toInt = (n : Int) - 1 := by
    rw [pk_sub_toInt (by omega) (by decide)]
    rfl
  unfold fIn
  refine mb_f (fun w => ?_)
  have w1 := Int32.le_iff_toInt_le.mp w.1
  have w2 := Int32.le_iff_toInt_le.mp w.2
  rw [e] at w2
  have e0 : (nI 0).toInt = 0 := rfl
  rw [e0] at w1
  rcases h with h | h
  · have := Int32.lt_iff_toInt_lt.mp h
    have e0 : (0 : Int32).toInt = 0 := rfl
    omega
  · have := Int32.le_iff_toInt_le.mp h
    rw [nI_toInt (by omega)] at this
    omega
theorem fIn_yes {j n : Nat} (hn : n ≤ 90) (h : j < n) : fIn (nI j) (nI 0) (nI n - nI 1) = nI 1 := by
  have e : (nI n - nI 1).toInt = (n : Int) - 1 := by
    rw [pk_sub_toInt (by omega) (by decide)]
    rfl
  unfold fIn
  refine mb_t ⟨nI_pos' (by omega), ?_⟩
  rw [Int32.le_iff_toInt_le, e, nI_toInt (by omega)]
  omega
set_option maxHeartbeats 4000000 in
theorem v_pr {g : mG} {M : mM} {z : aZ} {y k : Int32} (hR : RpM M z) (hI : zInv z) : vOK xGW yX8_print cX8_print 4 (some .int) ({ frames := 13, cells := 12, slots := 120, locals := 624 } : Room) 12 120 g [.ref (g.1 50), .int y, .int k] (mWs g.1 g.2.2.1 mSH M) (fun v ws1 => v = some (.int (F_print z [y, k]).1) ∧ ws1 = mWs g.1 g.2.2.1 mSH M) := by
  refine vOK.of (by decide) (Nat.le_of_ble_eq_true rfl) ?_
  intro p l e s m args below meth c ls C0 hin hX hsz hl
  have hX0 : iSt g (va_A (mWs g.1 g.2.2.1 mSH M) s.heap.size) s (mWs g.1 g.2.2.1 mSH M ++ []) s.heap [] := by
    rw [List.append_nil]
    exact hX
  obtain ⟨l0, l1⟩ := hR.2.1
  have hlen := hI.2.1.1
  have h8 : (8 : Nat) ≤ 13 ∧ 400 ≤ 48 * 13 := by decide
  have fin : ∀ (v : Int32) (H : Heap) (locs : List Loc) (E : va_W) (pc cells slots : Nat), cells ≤ 12 → slots ≤ 120 → v = (F_print z [y, k]).1 → iSt g (va_A (mWs g.1 g.2.2.1 mSH M) s.heap.size) s (mWs g.1 g.2.2.1 mSH M ++ E) H locs → ∀ ls : Array Slot, decode cX8_print pc = .ok (.ireturn, 1) → W p l e ({ frames := 13, cells := 12, slots := 120, locals := 624 } : Room) s m args below meth c H locs cells slots (vQ below g args s 12 120 (mWs g.1 g.2.2.1 mSH M) (fun v ws1 => v = some (.int (F_print z [y, k]).1) ∧ ws1 = mWs g.1 g.2.2.1 mSH M)) (F0 m pc ls [.int v]) := fun v H locs E pc cells slots h1 h2 h3 hX ls d => vRetI C0 hX.l ⟨by rw [h3], rfl⟩ d h1 h2
  refine lv_iload_n C0.1.1 C0.1.2.1 (by decide +kernel : decode cX8_print 0 = .ok (.iload_n 1, 1)) rfl (lv_at hl 1 rfl) ?_
  refine lv_iconst (v := nI 0) C0.1.1 C0.1.2.1 (by decide +kernel : decode cX8_print 1 = .ok (.iconst 0, 1)) (by decide) ?_
  refine lv_aload_n C0.1.1 C0.1.2.1 (by decide +kernel : decode cX8_print 2 = .ok (.aload_n 0, 1)) rfl (lv_at hl 0 rfl) ?_
  have h50 : (mWs g.1 g.2.2.1 mSH M)[50]? = some (g.1 50, .inr (10, mFld g.1 (M 50) 0 (mSH.getD 50 (0, 0, [])).2.2)) := mWs_get (c := 50) (h := mSH.getD 50 (0, 0, [])) rfl
  refine v_get C0 hX 50 h50 fe_RX8_311 (mFld_int rfl) (by decide +kernel : decode cX8_print 3 = .ok (.getfield 311, 3)) ?_
  rw [show M 50 (0 + 0) = _ from l0]
  refine lv_iconst (v := nI 1) C0.1.1 C0.1.2.1 (by decide +kernel : decode cX8_print 6 = .ok (.iconst 1, 1)) (by decide) ?_
  refine lv_isub C0.1.1 C0.1.2.1 (by decide +kernel : decode cX8_print 7 = .ok (.isub, 1)) ?_
  refine v_in C0 hX0 h8 hl.1 (by decide) ⟨Nat.le_of_ble_eq_true rfl, Nat.le_of_ble_eq_true rfl⟩ (by decide +kernel : decode cX8_print 8 = .ok (.invokestatic 214, 3)) (fun H locs hX => ?_)
  rcases ix_cs y (n := z.2.1.length) (by omega) with ⟨hi, e2⟩ | ⟨j, hj, rfl, e2⟩
  · have hz : fIn y (nI 0) (nI z.2.1.length - nI 1) = nI 0 := fIn_out hlen hi
    rw [hz]
    refine lv_if_ne (tgt := 17) C0.1.1 C0.1.2.1 (by decide +kernel : decode cX8_print 11 = .ok (.ifCond .ne 6, 3)) (by decide) (fun h => absurd rfl h) (fun _ => ?_)
    refine lv_bipush (v := -12) C0.1.1 C0.1.2.1 (by decide +kernel : decode cX8_print 14 = .ok (.bipush (-12), 2)) (by decide) ?_
    exact fin _ _ _ [] 16 0 0 (by decide) (by decide) (by simp only [F_print, e2]) hX ls (by decide +kernel : decode cX8_print 16 = .ok (.ireturn, 1))
  · have hz : fIn (nI j) (nI 0) (nI z.2.1.length - nI 1) = nI 1 := fIn_yes hlen hj
    rw [hz]
    refine lv_if_ne (tgt := 17) C0.1.1 C0.1.2.1 (by decide +kernel : decode cX8_print 11 = .ok (.ifCond .ne 6, 3)) (by decide) (fun _ => ?_) (fun h => absurd h (by decide))
    refine lv_aload_n C0.1.1 C0.1.2.1 (by decide +kernel : decode cX8_print 17 = .ok (.aload_n 0, 1)) rfl (lv_at hl 0 rfl) ?_
    refine lv_iload_n C0.1.1 C0.1.2.1 (by decide +kernel : decode cX8_print 18 = .ok (.iload_n 1, 1)) rfl (lv_at hl 1 rfl) ?_
    obtain ⟨b1, b2, b3, -⟩ := l1 j hj
    have hok := hI.eOk hj
    have hlo := eT_lo _ hok
    have hle := eT_len _ hok
    obtain ⟨g5, g1⟩ := hI.suit hj
    rw [List.append_nil] at hX
    refine vCallV (X := []) (q := g.1 50) (av := [.int (nI j)]) (rest := []) C0.1 C0.2.2.2.1 C0.2.2.2.2 hX (v_to (z := (eA z.2.1 j).1) (by omega) b1 b2 b3 hok g5 g1) (fun _ h => h) ⟨rfl, rfl⟩ ⟨Nat.le_of_ble_eq_true rfl, Nat.le_of_ble_eq_true rfl⟩ (va_recv (q := (RX8, TX8, 47)) (ci := 10) (q0 := 50) C0.2.2.2.1.1.1 hX.1 rfl h50) wc_X8_textOf wk_RX8_347 wi_X8_textOf wl_X8_textOf wn_RX8 wd_X8_textOf hl.1 (by decide) (by decide +kernel : decode cX8_print 19 = .ok (.invokevirtual 347, 3)) ⟨Nat.le_of_ble_eq_true rfl, Nat.le_of_ble_eq_true rfl⟩ (fun v ws1 H locs hPo hX => ?_)
    obtain ⟨x, E, rfl, hx, rfl⟩ := hPo
    have hc1 : k = -1 → (F_print z [nI j, k]).1 = nI (eT (eA z.2.1 j).1).length := fun h => by simp only [F_print, e2, if_pos h]
    have hc2 : ¬ k = -1 → ix k (eT (eA z.2.1 j).1).length = none → (F_print z [nI j, k]).1 = -12 := fun h h2 => by simp only [F_print, e2, if_neg h, h2]
    have hc3 : ∀ n, ¬ k = -1 → ix k (eT (eA z.2.1 j).1).length = some n → (F_print z [nI j, k]).1 = (eT (eA z.2.1 j).1).getD n 0 := fun n h h2 => by simp only [F_print, e2, if_neg h, h2]
    generalize eT (eA z.2.1 j).1 = t at hx hlo hle hc1 hc2 hc3
    refine lv_astore_n (lv' := [(3, .ref x), (0, .ref (g.1 50)), (1, .int (nI j)), (2, .int k)]) C0.1.1 C0.1.2.1 (by decide +kernel : decode cX8_print 22 = .ok (.astore_n 3, 1)) rfl hl (by decide) rfl (fun ls hl => ?_)
    refine lv_iload_n C0.1.1 C0.1.2.1 (by decide +kernel : decode cX8_print 23 = .ok (.iload_n 2, 1)) rfl (lv_at hl 3 rfl) ?_
    refine lv_iconst (v := -1) C0.1.1 C0.1.2.1 (by decide +kernel : decode cX8_print 24 = .ok (.iconst (-1), 1)) (by decide) ?_
    refine lv_icmp_ne (tgt := 33) C0.1.1 C0.1.2.1 (by decide +kernel : decode cX8_print 25 = .ok (.if_icmp .ne 8, 3)) (by decide) (fun hk => ?_) (fun hk => ?_)
    · refine lv_iload_n C0.1.1 C0.1.2.1 (by decide +kernel : decode cX8_print 33 = .ok (.iload_n 2, 1)) rfl (lv_at hl 3 rfl) ?_
      refine lv_iconst (v := nI 0) C0.1.1 C0.1.2.1 (by decide +kernel : decode cX8_print 34 = .ok (.iconst 0, 1)) (by decide) ?_
      refine lv_aload_n C0.1.1 C0.1.2.1 (by decide +kernel : decode cX8_print 35 = .ok (.aload_n 3, 1)) rfl (lv_at hl 0 rfl) ?_
      refine v_len C0 hx hX h8 hl.1 (Nat.le_of_ble_eq_true rfl) ⟨Nat.le_of_ble_eq_true rfl, Nat.le_of_ble_eq_true rfl⟩ (by decide +kernel : decode cX8_print 36 = .ok (.invokevirtual 225, 3)) (fun H locs hX => ?_)
      refine lv_iconst (v := nI 1) C0.1.1 C0.1.2.1 (by decide +kernel : decode cX8_print 39 = .ok (.iconst 1, 1)) (by decide) ?_
      refine lv_isub C0.1.1 C0.1.2.1 (by decide +kernel : decode cX8_print 40 = .ok (.isub, 1)) ?_
      refine v_in C0 hX h8 hl.1 (by decide) ⟨Nat.le_of_ble_eq_true rfl, Nat.le_of_ble_eq_true rfl⟩ (by decide +kernel : decode cX8_print 41 = .ok (.invokestatic 214, 3)) (fun H locs hX => ?_)
      rcases ix_cs k (n := t.length) (by omega) with ⟨hi, e3⟩ | ⟨n, hn, rfl, e3⟩
      · have hz : fIn k (nI 0) (nI t.length - nI 1) = nI 0 := fIn_out (by omega) hi
        rw [hz]
        refine lv_if_eq (tgt := 55) C0.1.1 C0.1.2.1 (by decide +kernel : decode cX8_print 44 = .ok (.ifCond .eq 11, 3)) (by decide) (fun _ => ?_) (fun h => absurd rfl h)
        refine lv_bipush (v := -12) C0.1.1 C0.1.2.1 (by decide +kernel : decode cX8_print 55 = .ok (.bipush (-12), 2)) (by decide) ?_
        exact fin _ _ _ E 57 _ _ (by decide) (by decide) (hc2 hk e3).symm hX ls (by decide +kernel : decode cX8_print 57 = .ok (.ireturn, 1))
      · have hz : fIn (nI n) (nI 0) (nI t.length - nI 1) = nI 1 := fIn_yes (by omega) hn
        rw [hz]
        refine lv_if_eq (tgt := 55) C0.1.1 C0.1.2.1 (by decide +kernel : decode cX8_print 44 = .ok (.ifCond .eq 11, 3)) (by decide) (fun h => absurd h (by decide)) (fun _ => ?_)
        refine lv_aload_n C0.1.1 C0.1.2.1 (by decide +kernel : decode cX8_print 47 = .ok (.aload_n 3, 1)) rfl (lv_at hl 0 rfl) ?_
        refine lv_iload_n C0.1.1 C0.1.2.1 (by decide +kernel : decode cX8_print 48 = .ok (.iload_n 2, 1)) rfl (lv_at hl 3 rfl) ?_
        refine v_chr C0 hx hX hn hlo h8 hl.1 (by decide) ⟨Nat.le_of_ble_eq_true rfl, Nat.le_of_ble_eq_true rfl⟩ (by decide +kernel : decode cX8_print 49 = .ok (.invokevirtual 236, 3)) (fun H locs hX => ?_)
        refine lv_goto (tgt := 57) C0.1.1 C0.1.2.1 (by decide +kernel : decode cX8_print 52 = .ok (.goto 5, 3)) (by decide) ?_
        exact fin _ _ _ E 57 _ _ (by decide) (by decide) (hc3 n hk e3).symm hX ls (by decide +kernel : decode cX8_print 57 = .ok (.ireturn, 1))
    · refine lv_aload_n C0.1.1 C0.1.2.1 (by decide +kernel : decode cX8_print 28 = .ok (.aload_n 3, 1)) rfl (lv_at hl 0 rfl) ?_
      refine v_len C0 hx hX h8 hl.1 (by decide) ⟨Nat.le_of_ble_eq_true rfl, Nat.le_of_ble_eq_true rfl⟩ (by decide +kernel : decode cX8_print 29 = .ok (.invokevirtual 225, 3)) (fun H locs hX => ?_)
      exact fin _ _ _ E 32 _ _ (by decide) (by decide) (hc1 hk).symm hX ls (by decide +kernel : decode cX8_print 32 = .ok (.ireturn, 1))

