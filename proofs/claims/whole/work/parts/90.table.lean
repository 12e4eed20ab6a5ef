/-! ===== A METHOD CALLED OUT OF A CONSTRUCTOR, AND THE TABLE'S CONSTRUCTOR ===== -/
theorem mFld_congr {ad ad' : Nat → Nat} {f : Nat → Int32} : ∀ (rs : List (Option Nat)) (j : Nat), (∀ k, some k ∈ rs → ad k = ad' k) → mFld ad f j rs = mFld ad' f j rs
  | [], _, _ => rfl
  | none :: rs, j, h => by
    show _ :: mFld ad f (j + 1) rs = _ :: mFld ad' f (j + 1) rs
    rw [mFld_congr rs (j + 1) (fun k hk => h k (List.mem_cons_of_mem _ hk))]
  | some a :: rs, j, h => by
    show Value.ref (ad a) :: mFld ad f (j + 1) rs = Value.ref (ad' a) :: mFld ad' f (j + 1) rs
    rw [mFld_congr rs (j + 1) (fun k hk => h k (List.mem_cons_of_mem _ hk)), h a (List.mem_cons_self ..)]
theorem mEnt_congr {ad ad' : Nat → Nat} {cy : Nat → ClassId} {f : Nat → Int32} {h : mH} (hr : ∀ k, some k ∈ h.2.2 → ad k = ad' k) : mEnt ad cy h f = mEnt ad' cy h f := by
  obtain ⟨k, n, rs⟩ := h
  have hm : (fun j : Nat => ((rs[j]?).getD none).map ad) = (fun j : Nat => ((rs[j]?).getD none).map ad') := funext fun j => by
    cases hj : rs[j]? with
    | none => rfl
    | some x =>
      cases x with
      | none => rfl
      | some y =>
        show some (ad y) = some (ad' y)
        rw [hr y (List.mem_of_getElem? hj)]
  match k with
  | 0 => rfl
  | 1 => exact congrArg (fun z => Sum.inl (cy 1, n, Sum.inr (Sum.inr (Sum.inr (Sum.inr z))))) hm
  | 2 => exact congrArg (fun z => Sum.inl (cy 2, n, Sum.inr (Sum.inr (Sum.inr (Sum.inr z))))) hm
  | 3 => rfl
  | 4 => rfl
  | k + 5 => exact congrArg (fun z => Sum.inr (k, z)) (mFld_congr rs 0 hr)
def rfOK (B : List mH) : Bool := B.all fun h => h.2.2.all fun r => match r with
  | some k => Nat.blt k B.length
  | none => true
theorem mWs_congr {ad ad' : Nat → Nat} {cy : Nat → ClassId} {B : List mH} {M : mM} (hB : rfOK B = true) (h : ∀ k, k < B.length → ad k = ad' k) : mWs ad cy B M = mWs ad' cy B M := by
  refine List.map_congr_left (fun c hc => ?_)
  have hc : c < B.length := List.mem_range.mp hc
  rw [h c hc]
  refine Prod.ext rfl (mEnt_congr (fun k hk => h k ?_))
  have hm : B.getD c (0, 0, []) ∈ B := by
    rw [List.getD_eq_getElem?_getD, List.getElem?_eq_getElem hc]
    exact List.getElem_mem hc
  have h2 := List.all_eq_true.mp (List.all_eq_true.mp hB _ hm) _ hk
  exact Nat.le_of_ble_eq_true h2
theorem va_D_M {A : Nat → Prop} {ad : Nat → Nat} {cy : Nat → ClassId} {B : List mH} {M M' : mM} (h : va_D A (mWs ad cy B M)) : va_D A (mWs ad cy B M') := by
  have key : ∀ (i : Nat) (q : Nat × va_E), (mWs ad cy B M')[i]? = some q → ∃ q', (mWs ad cy B M)[i]? = some q' ∧ q'.1 = q.1 := fun i q hq => by
    have hi : i < B.length := by
      have := (List.getElem?_eq_some_iff.mp hq).1
      rwa [mWs_len] at this
    rw [mWs_gd hi] at hq
    cases hq
    exact ⟨_, mWs_gd hi, rfl⟩
  refine ⟨fun i j x z hi hj hxz => ?_, fun k q hk => ?_⟩
  · obtain ⟨x', hx, ex⟩ := key i x hi
    obtain ⟨z', hz, ez⟩ := key j z hj
    exact h.1 i j x' z' hx hz (by rw [ex, ez, hxz])
  · obtain ⟨q', hq, e⟩ := key k q hk
    rw [← e]
    exact h.2 k q' hq
theorem mWs_nil {g : mG} {n : Nat} {ad : Nat → Nat} {B : List mH} : xS B (gN g n ad) = B := List.append_nil B
section IMETH
variable {p : Program} {l : Launch} {e : Env} {R : Room} {s : State} {m : MethodId} {args : Array Value} {below : List Frame} {meth : Method} {c : Code} {Q : State → Prop} {H : Heap} {locs : List Loc} {cells slots : Nat} {cc : ByteArray} {pc nL : Nat} {ls : Array Slot} {rest : List Value} {A : Nat → Prop} {own : String} {B : List mH} {g : mG} {M : mM} {Wd : List Cond} {y : MethodName} {bytes : ByteArray} {maxL : Nat} {ret : Option FieldType} {rm : Room} {mc ms : Nat} {T : mG → mT} {n idx : Nat} {ad : Nat → Nat}
theorem iMeth (S : CallFix p m c cc nL s args xGW own) (hE : mEnv g A s s.heap) (hA : ∀ x, s.heap.size ≤ x → A x) (hX : iSt g A s (mWs ad g.2.2.1 B M) H locs) (hB : B.length ≤ 999) (hrf : rfOK B = true)
    (hM : xOKr Wd B y bytes maxL ret rm mc ms T) (hWd : ∀ w ∈ Wd, w ∈ xGW) (hrm : rm.cells = mc ∧ rm.slots = ms) (hR : rm.frames + 1 ≤ R.frames ∧ 8 + (maxL + 11) + rm.locals ≤ R.locals) (hrec : xHasR B y n T)
    (hcode : Cond.code y bytes maxL ret ∈ mGW) (hlink : Cond.methodLink own idx y ∈ mGW) (hinst : Cond.instanceMethod y ∈ mGW) (hsel : Cond.selects y.cls y y ∈ mGW) (hini : Cond.initialized y.cls ∈ mGW)
    (hy : y.cls ≠ "java/lang/invoke/MethodHandle" ∧ y.cls ≠ "java/lang/invoke/VarHandle" ∧ (parseMethodDescriptor y.desc).map (fun d => d.parameters.length) = some n)
    {as : List mV} {Po : mP} (hT : T (gN g B.length ad) as M Po) (hlen : as.length = n + 1) (hsz : ls.size = nL) (hrest : (rest.map fun v => v.category).sum ≤ 8) (hdg : decode cc pc = .ok (.invokevirtual idx, 3)) (hf : cells + mc ≤ R.cells ∧ slots + ms ≤ R.slots)
    (kk : ∀ (r : Option mV) (M' : mM) (H' : Heap) (locs' : List Loc), iSt g A s (mWs ad g.2.2.1 B M') H' locs' → H.size ≤ H'.size → (∀ q, q < H.size → ¬ xA B (gN g B.length ad) H.size q → H'[q]? = H[q]?) → Po r M' → W p l e R s m args below meth c H' locs' (cells + mc) (slots + ms) Q (F0 m (pc + 3) ls ((r.map (mval (gN g B.length ad).1)).toList ++ rest))) :
    W p l e R s m args below meth c H locs cells slots Q (F0 m pc ls ((as.map (mval (gN g B.length ad).1)).reverse ++ rest)) := by
  have ew : ∀ M, mWs (gN g B.length ad).1 (gN g B.length ad).2.2.1 (xS B (gN g B.length ad)) M = mWs ad g.2.2.1 B M := fun M => by
    rw [mWs_nil]
    exact mWs_congr hrf (fun k hk => gN_lo hk)
  refine xCallV (g := gN g B.length ad) (A := A) (B := B) (M := M) S hM hWd hrm hR hrec hcode hlink hinst hsel hini hy (mEnv_N hB hE) (fun q hq => ?_) (by rw [ew]; exact hX.1) (by rw [ew]; exact hX.2.1.weaken (fun _ _ _ _ => trivial)) hX.2.2 hT hlen hsz hrest hdg hf (fun r M' H' locs' h1 h2 h3 h4 h5 => ?_)
  · rcases hq with ⟨k, hk, rfl⟩ | hq
    · rw [mWs_nil] at hk
      rw [gN_lo hk]
      exact hX.2.1.2 k _ (mWs_gd hk)
    · exact hA q (Nat.le_trans hX.2.2.1 hq)
  · rw [ew] at h1
    exact kk r M' H' locs' ⟨h1, va_D_M hX.2.1, h2⟩ h3 h4 h5
end IMETH
set_option maxHeartbeats 4000000 in
theorem i_X5_init : iOK yX5_init cX5_init 1 ({ frames := 4, cells := 12, slots := 138, locals := 192 } : Room) 12 138 [] 7 [.null, .null, .null, .int 0, .int 0, .int 0, .int 0] tSH (fun M => RpT 0 M tb0) := by
  refine iOK.of (by decide) rfl (fun h0 => Nat.le_of_ble_eq_true rfl) ?_
  intro p l e s m args below meth c ls g h0 C0 hX hsz hl
  refine iObj0 (idx := 3) C0 (lv_at hl 0 rfl) hsz (by decide +kernel : decode cX5_init 0 = .ok (.aload_n 0, 1)) (by decide +kernel : decode cX5_init 1 = .ok (.invokespecial 3, 3)) (mIn 95 (by decide +kernel) rfl) wi_obj wc_obj (Nat.le_of_ble_eq_true rfl) (Nat.le_of_ble_eq_true rfl) ?_
  refine i_obj (k := 0) (b := 2) (ty1 := (.object "TrickHouse$Bids")) C0 hX (lv_at hl 0 rfl) i_X1_init ⟨rfl, rfl⟩ ⟨Nat.le_of_ble_eq_true rfl, Nat.le_of_ble_eq_true rfl⟩ rfl wu_RX1 tyX1 tyX1_ok (fun j hj => by
    have hj : j < 8 := hj
    rcases (by omega : j = 0 ∨ j = 1 ∨ j = 2 ∨ j = 3 ∨ j = 4 ∨ j = 5 ∨ j = 6 ∨ j = 7) with rfl | rfl | rfl | rfl | rfl | rfl | rfl | rfl <;> rfl) (mIn 96 (by decide +kernel) rfl) (mIn 97 (by decide +kernel) rfl) wn_RX1 wc_X1_init (Or.inr ⟨_, wm_RX5_11⟩) wi_X1_init wn_RX1 rfl wd_X1_init fe_RX5_12 rfl rfl rfl rfl (fun _ => rfl) (fun _ => rfl) (Nat.le_of_ble_eq_true rfl) hsz (by decide +kernel : decode cX5_init 4 = .ok (.aload_n 0, 1)) (by decide +kernel : decode cX5_init 5 = .ok (.new 9, 3)) (by decide +kernel : decode cX5_init 8 = .ok (.dup, 1)) (by decide +kernel : decode cX5_init 9 = .ok (.invokespecial 11, 3)) (by decide +kernel : decode cX5_init 12 = .ok (.putfield 12, 3)) ⟨Nat.le_of_ble_eq_true rfl, Nat.le_of_ble_eq_true rfl⟩ (fun a1 M1 H locs _ hX => ?_)
  refine i_obj (k := 1) (b := 2) (ty1 := (.object "TrickHouse$Play")) C0 hX (lv_at hl 0 rfl) i_X2_init ⟨rfl, rfl⟩ ⟨Nat.le_of_ble_eq_true rfl, Nat.le_of_ble_eq_true rfl⟩ rfl wu_RX2 tyX2 tyX2_ok (fun j hj => by
    have hj : j < 12 := hj
    rcases (by omega : j = 0 ∨ j = 1 ∨ j = 2 ∨ j = 3 ∨ j = 4 ∨ j = 5 ∨ j = 6 ∨ j = 7 ∨ j = 8 ∨ j = 9 ∨ j = 10 ∨ j = 11) with rfl | rfl | rfl | rfl | rfl | rfl | rfl | rfl | rfl | rfl | rfl | rfl <;> rfl) (mIn 141 (by decide +kernel) rfl) (mIn 142 (by decide +kernel) rfl) wn_RX2 wc_X2_init (Or.inr ⟨_, wm_RX5_20⟩) wi_X2_init wn_RX2 rfl wd_X2_init fe_RX5_21 rfl rfl rfl rfl (fun _ => rfl) (fun _ => rfl) (Nat.le_of_ble_eq_true rfl) hsz (by decide +kernel : decode cX5_init 15 = .ok (.aload_n 0, 1)) (by decide +kernel : decode cX5_init 16 = .ok (.new 18, 3)) (by decide +kernel : decode cX5_init 19 = .ok (.dup, 1)) (by decide +kernel : decode cX5_init 20 = .ok (.invokespecial 20, 3)) (by decide +kernel : decode cX5_init 23 = .ok (.putfield 21, 3)) ⟨Nat.le_of_ble_eq_true rfl, Nat.le_of_ble_eq_true rfl⟩ (fun a2 M2 H locs _ hX => ?_)
  refine i_obj (k := 2) (b := 2) (ty1 := (.object "TrickHouse$Scores")) C0 hX (lv_at hl 0 rfl) i_X3_init ⟨rfl, rfl⟩ ⟨Nat.le_of_ble_eq_true rfl, Nat.le_of_ble_eq_true rfl⟩ rfl wu_RX3 tyX3 tyX3_ok (fun j hj => by
    have hj : j < 6 := hj
    rcases (by omega : j = 0 ∨ j = 1 ∨ j = 2 ∨ j = 3 ∨ j = 4 ∨ j = 5) with rfl | rfl | rfl | rfl | rfl | rfl <;> rfl) (mIn 194 (by decide +kernel) rfl) (mIn 195 (by decide +kernel) rfl) wn_RX3 wc_X3_init (Or.inr ⟨_, wm_RX5_27⟩) wi_X3_init wn_RX3 rfl wd_X3_init fe_RX5_28 rfl rfl rfl rfl (fun _ => rfl) (fun _ => rfl) (Nat.le_of_ble_eq_true rfl) hsz (by decide +kernel : decode cX5_init 26 = .ok (.aload_n 0, 1)) (by decide +kernel : decode cX5_init 27 = .ok (.new 25, 3)) (by decide +kernel : decode cX5_init 30 = .ok (.dup, 1)) (by decide +kernel : decode cX5_init 31 = .ok (.invokespecial 27, 3)) (by decide +kernel : decode cX5_init 34 = .ok (.putfield 28, 3)) ⟨Nat.le_of_ble_eq_true rfl, Nat.le_of_ble_eq_true rfl⟩ (fun a3 M3 H locs _ hX => ?_)
  refine lv_aload_n C0.1.1 C0.1.2.1 (by decide +kernel : decode cX5_init 37 = .ok (.aload_n 0, 1)) rfl (lv_at hl 0 rfl) ?_
  refine iMeth (rest := []) (as := [.inr (some 0)]) (B := tSH) (ad := fun k => [h0, a1 0, a1 1, a2 0, a2 1, a2 2, a2 3, a2 4, a2 5, a2 6, a2 7, a3 0, a3 1].getD k 0) (M := fun k => [fun _ => 0, M1 0, M1 1, M2 0, M2 1, M2 2, M2 3, M2 4, M2 5, M2 6, M2 7, M3 0, M3 1].getD k (fun _ => 0)) (Po := fun r M' => r = none ∧ RpT 0 M' tb0)
    C0.1 C0.2.2.2.2.1.1 C0.2.2.2.2.2 hX (by decide) (by decide) (xOKr.w ok_yX5_clear) (fun _ h => h) ⟨rfl, rfl⟩ ⟨Nat.le_of_ble_eq_true rfl, Nat.le_of_ble_eq_true rfl⟩ rv_yX5_clear wc_X5_clear wk_RX5_32 wi_X5_clear wl_X5_clear wn_RX5 wd_X5_clear ⟨0, rfl, fun M' h => ⟨rfl, h⟩⟩ rfl hsz (by decide) (by decide +kernel : decode cX5_init 38 = .ok (.invokevirtual 32, 3)) ⟨Nat.le_of_ble_eq_true rfl, Nat.le_of_ble_eq_true rfl⟩ (fun r M H locs hX _ _ hR => ?_)
  obtain ⟨rfl, hR⟩ := hR
  exact iRet id C0 hX (fun k hk => mWs_gd hk) (fun _ _ _ _ h => h) rfl hR (by decide +kernel : decode cX5_init 41 = .ok (.return_, 1)) (by decide) (by decide)

