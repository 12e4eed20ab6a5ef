/-! ===== THE REFERENCE'S textOf: texts that are constants, or were made ===== -/
/-- a String with n bytes, behind a StringBuilder's two cells -/
def stX (n : Nat) : List mH := [(5, 0, [some 3, none, none, none]), (3, n, [])]
/-- x is a text u: a constant, or the third of the cells E -/
def vTxt (g : mG) (x : Nat) (u : List Int32) (E : va_W) : Prop := (∃ w, w < 17 ∧ x = g.1 (1000 + w) ∧ u = wB w ∧ E = []) ∨ ∃ (a2 : Nat → Nat) (M2 : mM), x = a2 2 ∧ E = mWs a2 g.2.2.1 (sSH ++ stX u.length) M2 ∧ M2 2 1 = 0 ∧ (∀ j, j < u.length → M2 3 j = u.getD j 0) ∧ u.length ≤ 16
theorem gN2 {g : mG} {ad : Nat → Nat} {cy : Nat → ClassId} {M : mM} : mWs (gN g 2 ad).1 cy sSH M = mWs ad cy sSH M := mWs_congr rfl (fun k hk => gN_lo hk)
theorem gN4 {g : mG} {ad : Nat → Nat} {cy : Nat → ClassId} {M : mM} {n : Nat} : mWs (gN g 4 ad).1 cy (sSH ++ stX n) M = mWs ad cy (sSH ++ stX n) M := mWs_congr rfl (fun k hk => gN_lo hk)
theorem vOK.x0 {Wd : List Cond} {B : List mH} {y : MethodName} {bytes : ByteArray} {maxL : Nat} {ret : Option FieldType} {rm : Room} {mc ms : Nat} {T : mG → mT} (h : xOKr Wd B y bytes maxL ret rm mc ms T) {g : mG} {a2 : Nat → Nat} {o2 : Option Nat}
    (hE : ∀ (A : Nat → Prop) (U : State) (H : Heap), mEnv g A U H → mEnv (a2, g.2.1, g.2.2.1, o2, []) A U H) {as : List mV} {M : mM} {P : mP} (hT : T (a2, g.2.1, g.2.2.1, o2, []) as M P) :
    vOK Wd y bytes maxL ret rm mc ms g (as.map (mval a2)) (mWs a2 g.2.2.1 B M) (fun v ws1 => ∃ (r : Option mV) (M' : mM), v = r.map (mval a2) ∧ P r M' ∧ ws1 = mWs a2 g.2.2.1 B M') := by
  have := vOK.x h hE hT
  rwa [List.append_nil] at this
theorem v_recS {A : Nat → Prop} {s : State} {H : Heap} {locs : List Loc} {g : mG} {w : Nat} (hw : w < 17) (hE : mEnv g A s s.heap) (hS : va_S A s.heap H locs) : ∃ cell : Cell, H[g.1 (1000 + w)]? = some cell ∧ cell.vm.isStatics = false ∧ s.vm.findClass RJ0 = some cell.cls := by
  obtain ⟨hs0, -⟩ := hE.2.2.2.1.1 w hw
  obtain ⟨cell, h1, h2, h3, -⟩ := hs0.kept hS.2.1
  exact ⟨cell, h1, h2, h3⟩
section TEXT
variable {p : Program} {l : Launch} {e : Env} {R : Room} {s : State} {m : MethodId} {args : Array Value} {below : List Frame} {meth : Method} {c : Code} {Q : State → Prop} {H : Heap} {locs : List Loc} {cells slots : Nat} {cc : ByteArray} {pc nL : Nat} {ls : Array Slot} {rest : List Value} {A : Nat → Prop} {own : String} {ret : Option FieldType} {g : mG} {X0 E : va_W} {idx : Nat} {ad : Nat → Nat} {Mb M : mM} {t u : List Int32}
/-- a StringBuilder is made -/
theorem v_sb (C0 : vCx p s m args meth c cc nL own ret g A) (hX : iSt g A s X0 H locs) (hR : 3 ≤ R.frames ∧ 128 ≤ R.locals) {idx0 : Nat} (hcl : Cond.classLink own idx0 RJ4 ∈ mGW) (hlink : Cond.methodLink own idx yJ4_init_da8c8 ∈ mGW) (hsz : ls.size = nL) (hrest : (rest.map fun v => v.category).sum ≤ 7) (hf : cells + 2 ≤ R.cells ∧ slots + 20 ≤ R.slots)
    (d1 : decode cc pc = .ok (.new idx0, 3)) (d2 : decode cc (pc + 3) = .ok (.dup, 1)) (d3 : decode cc (pc + 4) = .ok (.invokespecial idx, 3))
    (kk : ∀ (ad : Nat → Nat) (Mb : mM) (H' : Heap) (locs' : List Loc), SBt Mb [] → iSt g A s (X0 ++ mWs ad g.2.2.1 sSH Mb) H' locs' → W p l e R s m args below meth c H' locs' (cells + 2) (slots + 20) Q (F0 m (pc + 7) ls (.ref (ad 0) :: rest))) : W p l e R s m args below meth c H locs cells slots Q (F0 m pc ls rest) := by
  refine v_new (ci := 1) (fs0 := [.null, .int 0, .int 0, .int 0]) C0 hX rfl wu_RJ4 tyJ4 tyJ4_ok (fun j hj => by
    have hj : j < 4 := hj
    rcases (by omega : j = 0 ∨ j = 1 ∨ j = 2 ∨ j = 3) with rfl | rfl | rfl | rfl <;> rfl) hcl (mIn 279 (by decide +kernel) rfl) wn_RJ4 (by omega) (by omega) d1 (fun q H hX => ?_)
  refine lv_dup C0.1.1 C0.1.2.1 d2 rfl ?_
  refine iCall (av := []) C0.1 i_J4_init_da8c8 ⟨rfl, rfl⟩ ⟨by show 2 + 1 ≤ _; omega, by show 8 + (1 + 11) + 96 ≤ _; omega⟩ wc_J4_init_da8c8 (Or.inl hlink) wi_J4_init_da8c8 wn_RJ4 rfl wd_J4_init_da8c8 C0.2.2.2.1 C0.2.2.2.2 hX.1 hX.2.1 hX.2.2 hsz ?_ d3 ⟨by omega, by omega⟩ (fun ad M H' locs' had hR0 hP2 hD2 hS2 => ?_)
  · rw [List.map_cons, List.sum_cons]
    show 1 + _ ≤ 8
    omega
  · rw [← had]
    exact kk ad M H' locs' hR0 ⟨hP2, hD2, hS2⟩
/-- append(String) -/
theorem v_apS {x : Nat} (C0 : vCx p s m args meth c cc nL own ret g A) (hx : vTxt g x u E) (hX : iSt g A s (X0 ++ (E ++ mWs ad g.2.2.1 sSH Mb)) H locs) (hS : SBt Mb t) (hlo : sLo u) (hlen : t.length + u.length ≤ 16) (hR : 8 ≤ R.frames ∧ 400 ≤ R.locals) (hlink : Cond.methodLink own idx yJ4_append_15ec4 ∈ mGW) (hsz : ls.size = nL) (hrest : (rest.map fun v => v.category).sum ≤ 8) (hf : cells ≤ R.cells ∧ slots ≤ R.slots)
    (d1 : decode cc pc = .ok (.invokevirtual idx, 3))
    (kk : ∀ (Mb : mM) (H' : Heap) (locs' : List Loc), SBt Mb (t ++ u) → iSt g A s (X0 ++ mWs ad g.2.2.1 sSH Mb) H' locs' → W p l e R s m args below meth c H' locs' cells slots Q (F0 m (pc + 3) ls (.ref (ad 0) :: rest))) : W p l e R s m args below meth c H locs cells slots Q (F0 m pc ls (.ref x :: .ref (ad 0) :: rest)) := by
  rcases hx with ⟨w, hw, rfl, rfl, rfl⟩ | ⟨a2, M2, rfl, rfl, c1, c0, c2⟩
  · have hX1 : iSt g A s (X0 ++ mWs (gN g 2 ad).1 g.2.2.1 sSH Mb) H locs := by
      rw [gN2]
      exact hX
    have e1 : (gN g 2 ad).1 (1000 + w) = g.1 (1000 + w) := gN_at (by decide) (by omega)
    have hM := vOK.x0 (xOKr.w xok_J4_append_15ec4) (g := g) (a2 := (gN g 2 ad).1) (o2 := g.2.2.2.1.map (fun _ => 999)) (as := [.inr (some 0), .inr (some (1000 + w))]) (M := Mb) (P := fun r M' => r = some (.inr (some 0)) ∧ SBt M' (t ++ wB w)) (fun A U H h => mEnv_N (by decide) h) ⟨(1000 + w, wB w, t), ⟨rfl, Or.inl ⟨w, hw, rfl, rfl⟩, hS, hlo, hlen⟩, fun M' h => ⟨rfl, h.1⟩⟩
    rw [← e1]
    refine vCallV (q := ad 0) (av := [.ref ((gN g 2 ad).1 (1000 + w))]) (X := X0) C0.1 C0.2.2.2.1 C0.2.2.2.2 hX1 hM (fun _ h => h) ⟨rfl, rfl⟩ ⟨?_, ?_⟩ ?_ wc_J4_append_15ec4 hlink wi_J4_append_15ec4 wl_J4_append_15ec4 wn_RJ4 wd_J4_append_15ec4 hsz hrest d1 ⟨?_, ?_⟩ (fun v ws1 H' locs' hPo hX2 => ?_)
    · show 5 + 1 ≤ _; omega
    · show 8 + (2 + 11) + 48 * 5 ≤ _; omega
    · exact va_recv (q := (RJ4, TJ4, 4)) (ci := 1) (q0 := 0) C0.2.2.2.1.1.1 hX.r.1 rfl rfl
    · show cells + 0 ≤ _; omega
    · show slots + 0 ≤ _; omega
    · obtain ⟨r, M', rfl, ⟨rfl, hS'⟩, rfl⟩ := hPo
      rw [gN2] at hX2
      exact kk M' H' locs' hS' hX2
  · have hX1 : iSt g A s (X0 ++ mWs (gN g 4 (fun k => [ad 0, ad 1, a2 2, a2 3].getD k 0)).1 g.2.2.1 (sSH ++ stX u.length) (fun k => [Mb 0, Mb 1, M2 2, M2 3].getD k (fun _ => 0))) H locs := by
      rw [gN4]
      have h1 : iSt g A s (X0 ++ ([(a2 0, mEnt a2 g.2.2.1 (6, 0, [some 1, none, none, none]) (M2 0)), (a2 1, mEnt a2 g.2.2.1 (3, 16, []) (M2 1))] ++ ([(a2 2, mEnt a2 g.2.2.1 (5, 0, [some 3, none, none, none]) (M2 2)), (a2 3, mEnt a2 g.2.2.1 (3, u.length, []) (M2 3))] ++ mWs ad g.2.2.1 sSH Mb))) H locs := hX
      exact h1.mid.swap
    have hM := vOK.x (xOKr.w xok_J4_append_15ec4) (g := g) (a2 := (gN g 4 (fun k => [ad 0, ad 1, a2 2, a2 3].getD k 0)).1) (o2 := g.2.2.2.1.map (fun _ => 999)) (ex := stX u.length) (as := [.inr (some 0), .inr (some 2)]) (M := fun k => [Mb 0, Mb 1, M2 2, M2 3].getD k (fun _ => 0)) (P := fun r M' => r = some (.inr (some 0)) ∧ SBt M' (t ++ u)) (fun A U H h => mEnv_N (g := g) (n := 4) (ad := fun k => [ad 0, ad 1, a2 2, a2 3].getD k 0) (by decide) h) ⟨(2, u, t), ⟨rfl, Or.inr ⟨rfl, c1, c0, c2, [], rfl⟩, hS, hlo, hlen⟩, fun M' h => ⟨rfl, h.1⟩⟩
    refine vCallV (q := ad 0) (av := [.ref (a2 2)]) (X := X0) C0.1 C0.2.2.2.1 C0.2.2.2.2 hX1 hM (fun _ h => h) ⟨rfl, rfl⟩ ⟨?_, ?_⟩ ?_ wc_J4_append_15ec4 hlink wi_J4_append_15ec4 wl_J4_append_15ec4 wn_RJ4 wd_J4_append_15ec4 hsz hrest d1 ⟨?_, ?_⟩ (fun v ws1 H' locs' hPo hX2 => ?_)
    · show 5 + 1 ≤ _; omega
    · show 8 + (2 + 11) + 48 * 5 ≤ _; omega
    · exact va_recv (q := (RJ4, TJ4, 4)) (ci := 1) (q0 := 0) C0.2.2.2.1.1.1 hX1.r.1 rfl rfl
    · show cells + 0 ≤ _; omega
    · show slots + 0 ≤ _; omega
    · obtain ⟨r, M', rfl, ⟨rfl, hS'⟩, rfl⟩ := hPo
      rw [gN4] at hX2
      have h2 : iSt g A s ((X0 ++ mWs ad g.2.2.1 sSH M') ++ [(a2 2, mEnt a2 g.2.2.1 (5, 0, [some 3, none, none, none]) (M' 2)), (a2 3, mEnt a2 g.2.2.1 (3, u.length, []) (M' 3))]) H' locs' := by
        rw [List.append_assoc]
        exact hX2
      exact kk M' H' locs' hS' h2.l
/-- append(char) -/
theorem v_apC {k : Nat} (C0 : vCx p s m args meth c cc nL own ret g A) (hX : iSt g A s (X0 ++ mWs ad g.2.2.1 sSH Mb) H locs) (hS : SBt Mb t) (hk : k < 128) (hlen : t.length < 16) (hR : 8 ≤ R.frames ∧ 400 ≤ R.locals) (hlink : Cond.methodLink own idx yJ4_append_cf468 ∈ mGW) (hsz : ls.size = nL) (hrest : (rest.map fun v => v.category).sum ≤ 8) (hf : cells ≤ R.cells ∧ slots ≤ R.slots)
    (d1 : decode cc pc = .ok (.invokevirtual idx, 3))
    (kk : ∀ (Mb : mM) (H' : Heap) (locs' : List Loc), SBt Mb (t ++ [nI k]) → iSt g A s (X0 ++ mWs ad g.2.2.1 sSH Mb) H' locs' → W p l e R s m args below meth c H' locs' cells slots Q (F0 m (pc + 3) ls (.ref (ad 0) :: rest))) : W p l e R s m args below meth c H locs cells slots Q (F0 m pc ls (.int (nI k) :: .ref (ad 0) :: rest)) := by
  have hX1 : iSt g A s (X0 ++ mWs (gN g 2 ad).1 g.2.2.1 sSH Mb) H locs := by
    rw [gN2]
    exact hX
  have hM := vOK.x0 (xOKr.w xok_J4_append_cf468) (g := g) (a2 := (gN g 2 ad).1) (o2 := g.2.2.2.1.map (fun _ => 999)) (as := [.inr (some 0), .inl (nI k)]) (M := Mb) (P := fun r M' => r = some (.inr (some 0)) ∧ SBt M' (t ++ [nI k])) (fun A U H h => mEnv_N (by decide) h) ⟨(t, k), ⟨rfl, hS, hlen, hk⟩, fun M' h => ⟨rfl, h.1⟩⟩
  refine vCallV (q := ad 0) (av := [.int (nI k)]) (X := X0) C0.1 C0.2.2.2.1 C0.2.2.2.2 hX1 hM (fun _ h => h) ⟨rfl, rfl⟩ ⟨?_, ?_⟩ ?_ wc_J4_append_cf468 hlink wi_J4_append_cf468 wl_J4_append_cf468 wn_RJ4 wd_J4_append_cf468 hsz hrest d1 ⟨?_, ?_⟩ (fun v ws1 H' locs' hPo hX2 => ?_)
  · show 3 + 1 ≤ _; omega
  · show 8 + (2 + 11) + 48 * 3 ≤ _; omega
  · exact va_recv (q := (RJ4, TJ4, 4)) (ci := 1) (q0 := 0) C0.2.2.2.1.1.1 hX.r.1 rfl rfl
  · show cells + 0 ≤ _; omega
  · show slots + 0 ≤ _; omega
  · obtain ⟨r, M', rfl, ⟨rfl, hS'⟩, rfl⟩ := hPo
    rw [gN2] at hX2
    exact kk M' H' locs' hS' hX2
/-- append(int) -/
theorem v_apI {k : Nat} (C0 : vCx p s m args meth c cc nL own ret g A) (hX : iSt g A s (X0 ++ mWs ad g.2.2.1 sSH Mb) H locs) (hS : SBt Mb t) (hk : k < 1000000) (hlen : t.length + (gD 3 k).length ≤ 16) (hR : 8 ≤ R.frames ∧ 400 ≤ R.locals) (hlink : Cond.methodLink own idx yJ4_append_bf812 ∈ mGW) (hsz : ls.size = nL) (hrest : (rest.map fun v => v.category).sum ≤ 8) (hf : cells ≤ R.cells ∧ slots ≤ R.slots)
    (d1 : decode cc pc = .ok (.invokevirtual idx, 3))
    (kk : ∀ (Mb : mM) (H' : Heap) (locs' : List Loc), SBt Mb (t ++ gD 3 k) → iSt g A s (X0 ++ mWs ad g.2.2.1 sSH Mb) H' locs' → W p l e R s m args below meth c H' locs' cells slots Q (F0 m (pc + 3) ls (.ref (ad 0) :: rest))) : W p l e R s m args below meth c H locs cells slots Q (F0 m pc ls (.int (nI k) :: .ref (ad 0) :: rest)) := by
  have hX1 : iSt g A s (X0 ++ mWs (gN g 2 ad).1 g.2.2.1 sSH Mb) H locs := by
    rw [gN2]
    exact hX
  have hM := vOK.x0 (xOKr.w xok_J4_append_bf812) (g := g) (a2 := (gN g 2 ad).1) (o2 := g.2.2.2.1.map (fun _ => 999)) (as := [.inr (some 0), .inl (nI k)]) (M := Mb) (P := fun r M' => r = some (.inr (some 0)) ∧ SBt M' (t ++ gD 3 k)) (fun A U H h => mEnv_N (by decide) h) ⟨(k, t), ⟨rfl, hk, hS, hlen⟩, fun M' h => ⟨rfl, h.1⟩⟩
  refine vCallV (q := ad 0) (av := [.int (nI k)]) (X := X0) C0.1 C0.2.2.2.1 C0.2.2.2.2 hX1 hM (fun _ h => h) ⟨rfl, rfl⟩ ⟨?_, ?_⟩ ?_ wc_J4_append_bf812 hlink wi_J4_append_bf812 wl_J4_append_bf812 wn_RJ4 wd_J4_append_bf812 hsz hrest d1 ⟨?_, ?_⟩ (fun v ws1 H' locs' hPo hX2 => ?_)
  · show 3 + 1 ≤ _; omega
  · show 8 + (2 + 11) + 48 * 3 ≤ _; omega
  · exact va_recv (q := (RJ4, TJ4, 4)) (ci := 1) (q0 := 0) C0.2.2.2.1.1.1 hX.r.1 rfl rfl
  · show cells + 0 ≤ _; omega
  · show slots + 0 ≤ _; omega
  · obtain ⟨r, M', rfl, ⟨rfl, hS'⟩, rfl⟩ := hPo
    rw [gN2] at hX2
    exact kk M' H' locs' hS' hX2
/-- toString -/
theorem v_tos (C0 : vCx p s m args meth c cc nL own ret g A) (hX : iSt g A s (X0 ++ mWs ad g.2.2.1 sSH Mb) H locs) (hS : SBt Mb t) (hlo : sLo t) (hlen : t.length < 16) (hR : 8 ≤ R.frames ∧ 400 ≤ R.locals) (hlink : Cond.methodLink own idx yJ4_toString_0e30d ∈ mGW) (hsz : ls.size = nL) (hrest : (rest.map fun v => v.category).sum ≤ 8) (hf : cells + 2 ≤ R.cells ∧ slots + 20 ≤ R.slots)
    (d1 : decode cc pc = .ok (.invokevirtual idx, 3))
    (kk : ∀ (x : Nat) (E : va_W) (H' : Heap) (locs' : List Loc), vTxt g x t E → iSt g A s (X0 ++ E) H' locs' → W p l e R s m args below meth c H' locs' (cells + 2) (slots + 20) Q (F0 m (pc + 3) ls (.ref x :: rest))) : W p l e R s m args below meth c H locs cells slots Q (F0 m pc ls (.ref (ad 0) :: rest)) := by
  have hX1 : iSt g A s (X0 ++ mWs (gN g 2 ad).1 g.2.2.1 sSH Mb) H locs := by
    rw [gN2]
    exact hX
  refine vCallV (q := ad 0) (av := []) (X := X0) C0.1 C0.2.2.2.1 C0.2.2.2.2 hX1 (v_ts (a2 := (gN g 2 ad).1) (o2 := g.2.2.2.1.map (fun _ => 999)) (fun A U H h => mEnv_N (by decide) h) hS hlen hlo) (fun _ h => h) ⟨rfl, rfl⟩ ⟨?_, ?_⟩ ?_ wc_J4_toString_0e30d hlink wi_J4_toString_0e30d wl_J4_toString_0e30d wn_RJ4 wd_J4_toString_0e30d hsz hrest d1 hf (fun v ws1 H' locs' hPo hX2 => ?_)
  · show 6 + 1 ≤ _; omega
  · show 8 + (1 + 11) + 48 * 6 ≤ _; omega
  · exact va_recv (q := (RJ4, TJ4, 4)) (ci := 1) (q0 := 0) C0.2.2.2.1.1.1 hX.r.1 rfl rfl
  · obtain ⟨q, r, f', rfl, rfl, hf'⟩ := hPo
    rw [gN2] at hX2
    exact kk q _ H' locs' (Or.inr ⟨fun k => [ad 0, ad 1, q, r].getD k 0, fun k => [Mb 0, Mb 1, fun _ => 0, f'].getD k (fun _ => 0), rfl, rfl, rfl, hf', by omega⟩) hX2
/-- the reference's array field at j -/
theorem v_rdF {k cell j : Nat} {Y : va_W} (C0 : vCx p s m args meth c cc nL RX8 ret g A) (hX : iSt g A s (mWs g.1 g.2.2.1 mSH M ++ Y) H locs) (hl0 : ls[0]? = some (.val (.ref (g.1 50)))) (hl1 : ls[1]? = some (.val (.int (nI j)))) (hj : j < 90) (hF : mFldE RX8 (idx, 10, k, 2)) (hk : (mSH.getD 50 (0, 0, [])).2.2[k]? = some (some cell)) (hc : mSH[cell]? = some (0, 90, []))
    (d0 : decode cc pc = .ok (.aload_n 0, 1)) (d1 : decode cc (pc + 1) = .ok (.getfield idx, 3)) (d2 : decode cc (pc + 4) = .ok (.iload_n 1, 1)) (d3 : decode cc (pc + 5) = .ok (.iaload, 1))
    (kk : W p l e R s m args below meth c H locs cells slots Q (F0 m (pc + 6) ls (.int (M cell j) :: rest))) : W p l e R s m args below meth c H locs cells slots Q (F0 m pc ls rest) := by
  refine lv_aload_n C0.1.1 C0.1.2.1 d0 rfl hl0 ?_
  have h50 : (mWs g.1 g.2.2.1 mSH M)[50]? = some (g.1 50, .inr (10, mFld g.1 (M 50) 0 (mSH.getD 50 (0, 0, [])).2.2)) := mWs_get (c := 50) (h := mSH.getD 50 (0, 0, [])) rfl
  refine v_get C0 hX 50 (app_l h50) hF (mFld_ref hk) d1 ?_
  refine lv_iload_n C0.1.1 C0.1.2.1 d2 rfl hl1 ?_
  refine va_iald C0.1.1 C0.1.2.1 C0.2.2.2.1.1.1 hX.1 cell 0 (app_l (mWs_get hc)) rfl (vp_in_nI hj (by decide)) d3 ?_
  rw [nI_clamp (by omega)]
  exact kk
/-- names.charAt
-/
theorem v_nm {Y : va_W} {k : Nat} (C0 : vCx p s m args meth c cc nL RX8 ret g A) (hX : iSt g A s (mWs g.1 g.2.2.1 mSH M ++ Y) H locs) (hk : k < 5) (hR : 8 ≤ R.frames ∧ 400 ≤ R.locals) (hsz : ls.size = nL) (hrest : (rest.map fun v => v.category).sum ≤ 8) (hf : cells ≤ R.cells ∧ slots ≤ R.slots)
    (d1 : decode cc pc = .ok (.invokevirtual 236, 3))
    (kk : ∀ (H' : Heap) (locs' : List Loc), iSt g A s (mWs g.1 g.2.2.1 mSH M ++ Y) H' locs' → W p l e R s m args below meth c H' locs' cells slots Q (F0 m (pc + 3) ls (.int (fLetter (nI k)) :: rest))) : W p l e R s m args below meth c H locs cells slots Q (F0 m pc ls (.int (nI k) :: .ref (g.1 (1000 + 15)) :: rest)) := by
  have hM := vOK.x0 (xOKr.m ok_J0_charAt_5068e) (g := g) (a2 := g.1) (o2 := g.2.2.2.1) (as := [.inr (some (1000 + 15)), .inl (nI k)]) (M := M) (P := fun r M' => r = some (.inl (fLetter (nI k))) ∧ M' = M) (fun A U H h => h) ⟨(15, k), ⟨(by decide : 15 < 17), rfl, by show k < 5; exact hk⟩, fun v M' h => ⟨by
    rw [h.1]
    rcases (by omega : k = 0 ∨ k = 1 ∨ k = 2 ∨ k = 3 ∨ k = 4) with rfl | rfl | rfl | rfl | rfl <;> rfl, h.2⟩⟩
  refine vCallV (q := g.1 (1000 + 15)) (av := [.int (nI k)]) (X := Y) C0.1 C0.2.2.2.1 C0.2.2.2.2 hX.swap0 hM (fun _ h => xIn h) ⟨rfl, rfl⟩ ⟨?_, ?_⟩ (v_recS (w := 15) (by decide) C0.2.2.2.1.1 hX.2.2) wc_J0_charAt_5068e wk_RX8_236 wi_J0_charAt_5068e wl_J0_charAt_5068e wn_RJ0 wd_J0_charAt_5068e hsz hrest d1 ⟨?_, ?_⟩ (fun v ws1 H' locs' hPo hX2 => ?_)
  · show 4 + 1 ≤ _; omega
  · show 8 + (2 + 11) + 48 * 4 ≤ _; omega
  · show cells + 0 ≤ _; omega
  · show slots + 0 ≤ _; omega
  · obtain ⟨r, M', rfl, ⟨rfl, rfl⟩, rfl⟩ := hPo
    exact kk H' locs' hX2.swap0
end TEXT
