/-! ===== THE LINE OF THE CLASS: a StringBuilder by itself within the world ===== -/
/-- where a StringBuilder by itself stands: cells 48 and 49 of the world -/
def gL (g : mG) : mG := (fun c => if c = 0 then g.1 48 else if c = 1 then g.1 49 else if c = 999 then (match g.2.2.2.1 with | some i => g.1 i | none => 0) else g.1 c, g.2.1, g.2.2.1, g.2.2.2.1.map (fun _ => 999), [])
def ML (M : mM) : mM := fun c => if c = 0 then M 48 else if c = 1 then M 49 else fun _ => 0
def MB (M M' : mM) : mM := mUp (mUp M 48 (M' 0)) 49 (M' 1)
def lOk : mV → Bool
  | .inl _ => true
  | .inr none => true
  | .inr (some a) => Nat.ble 1000 a
def rL : Option mV → Option mV
  | some (.inr (some 0)) => some (.inr (some 48))
  | r => r
def tL (T : mG → mT) : mG → mT := fun g as M P => ∃ rs : List mV, as = .inr (some 48) :: rs ∧ (∀ v ∈ rs, lOk v = true) ∧ T (gL g) (.inr (some 0) :: rs) (ML M) (fun r M' => (∀ c, r = some (.inr (some c)) → c = 0) ∧ P (rL r) (MB M M'))
theorem gL_at {g : mG} {c : Nat} (h : 1000 ≤ c) : (gL g).1 c = g.1 c := by
  show (if c = 0 then _ else if c = 1 then _ else if c = 999 then _ else _) = _
  rw [if_neg (by omega), if_neg (by omega), if_neg (by omega)]
theorem gL_v {g : mG} {v : mV} (h : lOk v = true) : mval (gL g).1 v = mval g.1 v := by
  rcases v with x | (_ | a)
  · rfl
  · rfl
  · have h2 : 1000 ≤ a := by simpa [lOk] using h
    show Value.ref ((gL g).1 a) = Value.ref (g.1 a)
    rw [gL_at h2]
theorem gL_r {g : mG} {r : Option mV} (h : ∀ c, r = some (.inr (some c)) → c = 0) : r.map (mval (gL g).1) = (rL r).map (mval g.1) := by
  rcases r with _ | (x | (_ | a))
  · rfl
  · rfl
  · rfl
  · obtain rfl := h a rfl
    rfl
theorem mEnv_L {g : mG} {A : Nat → Prop} {U : State} {H : Heap} (h : mEnv g A U H) : mEnv (gL g) A U H := by
  obtain ⟨h1, h2, h3, ⟨s1, s2, s3⟩, z1, z2, z3, z4⟩ := h
  refine ⟨h1, h2, fun q hq => ?_, ⟨fun i hi => ?_, ?_, ?_⟩, z1, ?_, ?_, ?_⟩
  · rw [gL_at (by omega)]
    exact h3 q hq
  · rw [gL_at (c := 1000 + i) (by omega), gL_at (c := 1100 + i) (by omega)]
    exact s1 i hi
  · rw [gL_at (by omega)]
    exact s2
  · rw [gL_at (by omega)]
    exact s3
  · rw [gL_at (by omega)]
    exact z2
  · rw [gL_at (by omega)]
    exact z3
  · have e : (gL g).2.2.2.1.map (gL g).1 = g.2.2.2.1.map g.1 := by
      show (g.2.2.2.1.map (fun _ => 999)).map (gL g).1 = _
      cases ho : g.2.2.2.1 with
      | none => rfl
      | some i =>
        show some ((gL g).1 999) = some (g.1 i)
        congr 1
        show (match g.2.2.2.1 with | some i => g.1 i | none => 0) = _
        rw [ho]
    rw [e]
    exact z4
theorem MB48 {M M' : mM} : MB M M' 48 = M' 0 := (mUp_ne (by decide)).trans mUp_at
theorem MB49 {M M' : mM} : MB M M' 49 = M' 1 := mUp_at
theorem MB_ne {M M' : mM} {c : Nat} (h : c ≠ 48) (h2 : c ≠ 49) : MB M M' c = M c := (mUp_ne h2).trans (mUp_ne h)
theorem ML_MB0 {M M' : mM} : ML (MB M M') 0 = M' 0 := MB48 (M := M)
theorem ML_MB1 {M M' : mM} : ML (MB M M') 1 = M' 1 := MB49 (M := M)
set_option maxHeartbeats 2000000 in
/-- a call of a StringBuilder's method at the line -/
theorem xSite.L {own : String} {d d' n idx : Nat} {y : MethodName} {bytes : ByteArray} {maxL : Nat} {ret : Option FieldType} {T : mG → mT} (hM : xOK sSH y bytes maxL ret d' T) (hd : d' < d) (hm : maxL ≤ 29) (hc : y.cls = RJ4)
    (hcode : Cond.code y bytes maxL ret ∈ mGW) (hlink : Cond.methodLink own idx y ∈ mGW) (hinst : Cond.instanceMethod y ∈ mGW) (hsel : Cond.selects y.cls y y ∈ mGW) (hini : Cond.initialized y.cls ∈ mGW)
    (hy : y.cls ≠ "java/lang/invoke/MethodHandle" ∧ y.cls ≠ "java/lang/invoke/VarHandle" ∧ (parseMethodDescriptor y.desc).map (fun d => d.parameters.length) = some n) : xSite mSH own d (3 * idx) (n + 1) (tL T) := by
  intro p l e s m args below meth c Q cc nL g hx hb hml hown hts0 hD hE pc H locs ls M as rest Po hdg hP hS hsz hlen hrest hT kk
  have hts : ∀ w ∈ mGW, w.before args s = true := fun w h => hts0 w (xIn h)
  rw [mIns_v] at hdg
  obtain ⟨rs, rfl, hok, hT⟩ := hT
  have e48 := mWs_get (ad := g.1) (cy := g.2.2.1) (M := M) (SH := xS mSH g) (c := 48) (h := (6, 0, [some 49, none, none, none])) rfl
  have e49 := mWs_get (ad := g.1) (cy := g.2.2.1) (M := M) (SH := xS mSH g) (c := 49) (h := (3, 16, [])) rfl
  have m0 := mWs_get (ad := (gL g).1) (cy := g.2.2.1) (M := ML M) (SH := xS sSH (gL g)) (c := 0) (h := (6, 0, [some 1, none, none, none])) rfl
  have m1 := mWs_get (ad := (gL g).1) (cy := g.2.2.1) (M := ML M) (SH := xS sSH (gL g)) (c := 1) (h := (3, 16, [])) rfl
  have hne : g.1 48 ≠ g.1 49 := fun h => by
    have := (mWs_D hD M).1 48 49 _ _ e48 e49 h
    omega
  have hPm : va_P g.2.1 vwCl (mWs (gL g).1 g.2.2.1 (xS sSH (gL g)) (ML M)) H := by
    intro k q hk
    have hk2 : k < 2 := (mWs_at hk).1
    rcases (by omega : k = 0 ∨ k = 1) with rfl | rfl
    · rw [m0] at hk
      cases hk
      exact hP 48 _ e48
    · rw [m1] at hk
      cases hk
      exact hP 49 _ e49
  have hDm : va_D (fun _ => True) (mWs (gL g).1 g.2.2.1 (xS sSH (gL g)) (ML M)) := by
    refine ⟨fun i j p q hi hj hpq => ?_, fun _ _ _ => trivial⟩
    have hi2 : i < 2 := (mWs_at hi).1
    have hj2 : j < 2 := (mWs_at hj).1
    rcases (by omega : i = 0 ∨ i = 1) with rfl | rfl <;> rcases (by omega : j = 0 ∨ j = 1) with rfl | rfl
    · rfl
    · rw [m0] at hi
      rw [m1] at hj
      cases hi
      cases hj
      exact absurd hpq hne
    · rw [m1] at hi
      rw [m0] at hj
      cases hi
      cases hj
      exact absurd hpq.symm hne
    · rfl
  have hmap : (Sum.inr (some 0) :: rs).map (mval (gL g).1) = Value.ref (g.1 48) :: rs.map (mval g.1) := by
    rw [List.map_cons]
    congr 1
    exact List.map_congr_left (fun v hv => gL_v (hok v hv))
  have hMet := hM l (gL g) H.size (.inr (some 0) :: rs) (ML M) _ hT
  rw [hmap] at hMet
  have hxa : ∀ q, xA sSH (gL g) H.size q → xA mSH g s.heap.size q := fun q h => by
    rcases h with ⟨k, hk, h⟩ | h
    · have hk2 : k < 2 := hk
      rcases (by omega : k = 0 ∨ k = 1) with rfl | rfl
      · exact Or.inl ⟨48, by show 48 < (mSH ++ _).length; rw [List.length_append]; exact Nat.lt_of_lt_of_le (by decide : 48 < mSH.length) (Nat.le_add_right _ _), h⟩
      · exact Or.inl ⟨49, by show 49 < (mSH ++ _).length; rw [List.length_append]; exact Nat.lt_of_lt_of_le (by decide : 49 < mSH.length) (Nat.le_add_right _ _), h⟩
    · exact Or.inr (Nat.le_trans hS.1 h)
  have hrc := va_recv (q := (RJ4, TJ4, 4)) (ci := 1) hE.1 hP rfl e48
  have hrun := va_runV (p := p) (l := l) (e := e) (R := mRm d) (s := s) (m := m) (args := args) (below := below) (meth := meth) (c := c) (H := H) (locs := locs) (cells := 0) (slots := 0) (own := own) (C := y.cls) (b := g.1 48) (As := rs.map (mval g.1)) (rest := rest.map (mval g.1)) (n := n) (index := idx) (g := F0 m pc ls (((Sum.inr (some 48) :: rs).reverse ++ rest).map (mval g.1)))
    ⟨hx, hb, hml, hown, hts0⟩ hMet
    ⟨callB_of n hts0 (xGoodIn (fun _ h => h) hcode) rfl rfl rfl (hts _ hini) (hts _ hlink) hy (mRm_call hd hm), hts _ hinst, hts _ hsel⟩
    ⟨xB_blind, by rw [hc]; exact hrc, fun U hU hW => ⟨rfl, by rw [hU], by rw [hU]; exact hPm, hDm, by rw [hU]; exact mEnv.warm hW (((mEnv_L hE).kept hS.2.1).narrow hxa)⟩⟩ rfl (by simpa using hlen) hsz (by show List.map (mval g.1) _ = _; rw [mMap_rev]) (mRoomOK hrest) hdg ⟨Nat.zero_le _, Nat.zero_le _⟩
  intro T0 hT0 X
  obtain ⟨v, st₀, t, T', L, h0, X', hL, e1, e2, ⟨⟨r, M', hv, hp, hw⟩, hz, hk⟩, st⟩ := hrun T0 hT0 X
  cases hv
  rw [h0] at hz hk
  have hS' : va_S (xA mSH g s.heap.size) s.heap T'.heap (locs ++ L) := ⟨Nat.le_trans hS.1 (by rw [e1]; exact hz), fun q h1 h2 => by rw [e1, hk q (Nat.lt_of_lt_of_le h1 hS.1) (fun z => h2 (hxa q z))]; exact hS.2.1 q h1 h2, fun q hq => by
      rcases List.mem_append.mp hq with h | h
      · exact hS.2.2 q h
      · exact hxa _ (hL q h)⟩
  have m0' := mWs_get (ad := (gL g).1) (cy := g.2.2.1) (M := M') (SH := xS sSH (gL g)) (c := 0) (h := (6, 0, [some 1, none, none, none])) rfl
  have m1' := mWs_get (ad := (gL g).1) (cy := g.2.2.1) (M := M') (SH := xS sSH (gL g)) (c := 1) (h := (3, 16, [])) rfl
  have hP' : va_P g.2.1 vwCl (mWs g.1 g.2.2.1 (xS mSH g) (MB M M')) T'.heap := by
    rw [e1]
    intro k q hq
    obtain ⟨hl1, hq1⟩ := mWs_at hq
    by_cases h48 : k = 48
    · subst h48
      rw [mWs_get (ad := g.1) (cy := g.2.2.1) (M := MB M M') (SH := xS mSH g) (c := 48) (h := (6, 0, [some 49, none, none, none])) rfl, MB48] at hq
      cases hq
      exact hw 0 _ m0'
    · by_cases h49 : k = 49
      · subst h49
        rw [mWs_get (ad := g.1) (cy := g.2.2.1) (M := MB M M') (SH := xS mSH g) (c := 49) (h := (3, 16, [])) rfl, MB49] at hq
        cases hq
        exact hw 1 _ m1'
      · have hg := mWs_get (ad := g.1) (cy := g.2.2.1) (M := MB M M') (List.getElem?_eq_getElem hl1)
        have hg0 := mWs_get (ad := g.1) (cy := g.2.2.1) (M := M) (List.getElem?_eq_getElem hl1)
        rw [hg, MB_ne h48 h49] at hq
        cases hq
        have hat := hP k _ hg0
        refine hat.kept (hk _ hat.lt (fun z => ?_))
        rcases z with ⟨j, hj, z⟩ | z
        · have hj2 : j < 2 := hj
          rcases (by omega : j = 0 ∨ j = 1) with rfl | rfl
          · exact h48 ((mWs_D hD M).1 48 k _ _ e48 hg0 z).symm
          · exact h49 ((mWs_D hD M).1 49 k _ _ e49 hg0 z).symm
        · exact absurd hat.lt (Nat.not_lt.mpr z)
  obtain ⟨t2, a1, b1⟩ := kk (rL r) (MB M M') T'.heap (locs ++ L) hP' hS' hp.2 T' rfl X'
  refine ⟨t2, st t2 ?_, b1⟩
  have e3 : (r.map (mval (gL g).1)).toList ++ rest.map (mval g.1) = (mRes (rL r) rest).map (mval g.1) := by
    rw [gL_r hp.1]
    cases rL r <;> rfl
  rw [e3]
  exact a1
theorem xSite.weak {B : List mH} {own : String} {d key n : Nat} {T T' : mG → mT} (h : xSite B own d key n T) (k : ∀ (g : mG) (as : List mV) (M : mM) (P : mP), T' g as M P → T g as M P) : xSite B own d key n T' := by
  intro p l e s m args below meth c Q cc nL g hx hb hml hown hts hD hE pc H locs ls M as rest Po hdg hP hS hsz hlen hrest hT kk
  exact h g hx hb hml hown hts hD hE pc H locs ls M as rest Po hdg hP hS hsz hlen hrest (k g as M Po hT) kk
def tLa {α : Type} (Pre : α → mG → List mV → mM → Prop) (Post : α → List mV → mM → mM → Prop) : mG → mT := fun g as M P => ∃ (rs : List mV) (x : α), (as = .inr (some 48) :: rs ∧ (∀ v ∈ rs, lOk v = true) ∧ Pre x (gL g) (.inr (some 0) :: rs) (ML M)) ∧ ∀ M' : mM, Post x (.inr (some 0) :: rs) (ML M) M' → P (some (.inr (some 48))) (MB M M')
def tLv {α : Type} (Pre : α → mG → List mV → mM → Prop) (Post : α → List mV → mM → mM → Prop) : mG → mT := fun g as M P => ∃ (rs : List mV) (x : α), (as = .inr (some 48) :: rs ∧ (∀ v ∈ rs, lOk v = true) ∧ Pre x (gL g) (.inr (some 0) :: rs) (ML M)) ∧ ∀ M' : mM, Post x (.inr (some 0) :: rs) (ML M) M' → P none (MB M M')
def tLi {α : Type} (Pre : α → mG → List mV → mM → Prop) (Post : α → List mV → mM → Int32 → mM → Prop) : mG → mT := fun g as M P => ∃ (rs : List mV) (x : α), (as = .inr (some 48) :: rs ∧ (∀ v ∈ rs, lOk v = true) ∧ Pre x (gL g) (.inr (some 0) :: rs) (ML M)) ∧ ∀ (v : Int32) (M' : mM), Post x (.inr (some 0) :: rs) (ML M) v M' → P (some (.inl v)) (MB M M')
theorem tLa_mono {α : Type} {Pre : α → mG → List mV → mM → Prop} {Post : α → List mV → mM → mM → Prop} : mMn (tLa Pre Post) := fun _ _ _ _ _ h k => by
  obtain ⟨rs, x, h1, h2⟩ := k
  exact ⟨rs, x, h1, fun M' z => h _ _ (h2 M' z)⟩
theorem tLv_mono {α : Type} {Pre : α → mG → List mV → mM → Prop} {Post : α → List mV → mM → mM → Prop} : mMn (tLv Pre Post) := fun _ _ _ _ _ h k => by
  obtain ⟨rs, x, h1, h2⟩ := k
  exact ⟨rs, x, h1, fun M' z => h _ _ (h2 M' z)⟩
theorem tLi_mono {α : Type} {Pre : α → mG → List mV → mM → Prop} {Post : α → List mV → mM → Int32 → mM → Prop} : mMn (tLi Pre Post) := fun _ _ _ _ _ h k => by
  obtain ⟨rs, x, h1, h2⟩ := k
  exact ⟨rs, x, h1, fun v M' z => h _ _ (h2 v M' z)⟩
theorem xSite.La {α : Type} {Pre : α → mG → List mV → mM → Prop} {Post : α → List mV → mM → mM → Prop} {own : String} {d d' n idx : Nat} {y : MethodName} {bytes : ByteArray} {maxL : Nat} {ret : Option FieldType} (hM : xOK sSH y bytes maxL ret d' (mGa Pre Post)) (hd : d' < d) (hm : maxL ≤ 29) (hc : y.cls = RJ4)
    (hcode : Cond.code y bytes maxL ret ∈ mGW) (hlink : Cond.methodLink own idx y ∈ mGW) (hinst : Cond.instanceMethod y ∈ mGW) (hsel : Cond.selects y.cls y y ∈ mGW) (hini : Cond.initialized y.cls ∈ mGW)
    (hy : y.cls ≠ "java/lang/invoke/MethodHandle" ∧ y.cls ≠ "java/lang/invoke/VarHandle" ∧ (parseMethodDescriptor y.desc).map (fun d => d.parameters.length) = some n) : xSite mSH own d (3 * idx) (n + 1) (tLa Pre Post) :=
  xSite.weak (xSite.L hM hd hm hc hcode hlink hinst hsel hini hy) (fun g as M P h => by
    obtain ⟨rs, x, ⟨h1, h3, h4⟩, h2⟩ := h
    exact ⟨rs, h1, h3, x, h4, fun M2 z => ⟨fun c hc => by cases hc; rfl, h2 M2 z⟩⟩)
theorem xSite.Lv {α : Type} {Pre : α → mG → List mV → mM → Prop} {Post : α → List mV → mM → mM → Prop} {own : String} {d d' n idx : Nat} {y : MethodName} {bytes : ByteArray} {maxL : Nat} {ret : Option FieldType} (hM : xOK sSH y bytes maxL ret d' (mGv Pre Post)) (hd : d' < d) (hm : maxL ≤ 29) (hc : y.cls = RJ4)
    (hcode : Cond.code y bytes maxL ret ∈ mGW) (hlink : Cond.methodLink own idx y ∈ mGW) (hinst : Cond.instanceMethod y ∈ mGW) (hsel : Cond.selects y.cls y y ∈ mGW) (hini : Cond.initialized y.cls ∈ mGW)
    (hy : y.cls ≠ "java/lang/invoke/MethodHandle" ∧ y.cls ≠ "java/lang/invoke/VarHandle" ∧ (parseMethodDescriptor y.desc).map (fun d => d.parameters.length) = some n) : xSite mSH own d (3 * idx) (n + 1) (tLv Pre Post) :=
  xSite.weak (xSite.L hM hd hm hc hcode hlink hinst hsel hini hy) (fun g as M P h => by
    obtain ⟨rs, x, ⟨h1, h3, h4⟩, h2⟩ := h
    exact ⟨rs, h1, h3, x, h4, fun M2 z => ⟨fun c hc => (by cases hc), h2 M2 z⟩⟩)
theorem xSite.Li {α : Type} {Pre : α → mG → List mV → mM → Prop} {Post : α → List mV → mM → Int32 → mM → Prop} {own : String} {d d' n idx : Nat} {y : MethodName} {bytes : ByteArray} {maxL : Nat} {ret : Option FieldType} (hM : xOK sSH y bytes maxL ret d' (mGi Pre Post)) (hd : d' < d) (hm : maxL ≤ 29) (hc : y.cls = RJ4)
    (hcode : Cond.code y bytes maxL ret ∈ mGW) (hlink : Cond.methodLink own idx y ∈ mGW) (hinst : Cond.instanceMethod y ∈ mGW) (hsel : Cond.selects y.cls y y ∈ mGW) (hini : Cond.initialized y.cls ∈ mGW)
    (hy : y.cls ≠ "java/lang/invoke/MethodHandle" ∧ y.cls ≠ "java/lang/invoke/VarHandle" ∧ (parseMethodDescriptor y.desc).map (fun d => d.parameters.length) = some n) : xSite mSH own d (3 * idx) (n + 1) (tLi Pre Post) :=
  xSite.weak (xSite.L hM hd hm hc hcode hlink hinst hsel hini hy) (fun g as M P h => by
    obtain ⟨rs, x, ⟨h1, h3, h4⟩, h2⟩ := h
    exact ⟨rs, h1, h3, x, h4, fun v M2 z => ⟨fun c hc => (by cases hc), h2 v M2 z⟩⟩)
/-! what a line is -/
/-- the text of an act -/
def eT (e : aA) : List Int32 :=
  let t1 := if e.1 = 5 then wB e.1 ++ [nI 32] ++ [fLetter e.2.2] else wB e.1
  let t2 := if e.2.1 = -1 then t1 else t1 ++ [nI 32] ++ gD 3 (ub e.2.1)
  if e.1 = 1 then t2 ++ [nI 32] ++ [fLetter e.2.2] else t2
def eOk (e : aA) : Prop := e.1 < 9 ∧ (e.2.1 = -1 ∨ ub e.2.1 < 1000000)
def LN (M0 : mM) (t : List Int32) (M : mM) : Prop := SBt (ML M) t ∧ ∀ c, c ≠ 48 → c ≠ 49 → M c = M0 c
theorem LN.ln {M0 M : mM} {t : List Int32} (h : LN M0 t M) : RpLn M := ⟨h.1.1, t.length, h.1.2.2.1, h.1.2.1⟩
theorem LN.put {M0 M M2 : mM} {t u : List Int32} (h : LN M0 t M) (k : SBt M2 u) : LN M0 u (MB M M2) := by
  obtain ⟨k1, k2, k3, k4⟩ := k
  refine ⟨⟨?_, ?_, k3, fun j hj => ?_⟩, fun c h1 h2 => (MB_ne h1 h2).trans (h.2 c h1 h2)⟩
  · rw [ML_MB0]
    exact k1
  · rw [ML_MB0]
    exact k2
  · rw [ML_MB1]
    exact k4 j hj
theorem fL_lo (x : Int32) : ∃ k : Nat, k < 128 ∧ fLetter x = nI k := by
  unfold fLetter
  by_cases h0 : x = nI 0
  · exact ⟨99, by decide, if_pos h0⟩
  · rw [if_neg h0]
    by_cases h1 : x = nI 1
    · exact ⟨100, by decide, if_pos h1⟩
    · rw [if_neg h1]
      by_cases h2 : x = nI 2
      · exact ⟨104, by decide, if_pos h2⟩
      · rw [if_neg h2]
        by_cases h3 : x = nI 3
        · exact ⟨115, by decide, if_pos h3⟩
        · exact ⟨110, by decide, if_neg h3⟩
theorem wB_lo : ∀ w, w < 17 → sLo (wB w) := by
  have h : ∀ w, w < 17 → ∀ j, j < (wB w).length → ub ((wB w).getD j 0) < 128 ∧ (wB w).getD j 0 = nI (ub ((wB w).getD j 0)) := by decide +kernel
  exact fun w hw j hj => ⟨_, h w hw j hj⟩
theorem wB_len2 : ∀ w, w < 9 → (wB w).length + (if w = 5 then 2 else 0) + (if w = 1 then 2 else 0) ≤ 8 := by decide +kernel
theorem gD_len {k : Nat} (h : k < 1000000) : (gD 3 k).length ≤ 6 := (gD_size h).2.1
theorem eT_lo (e : aA) (h : eOk e) : sLo (eT e) := by
  have a1 : sLo [nI 32] := sLo_1 ⟨32, by decide, rfl⟩
  have a2 : sLo [fLetter e.2.2] := sLo_1 (fL_lo _)
  have a3 := wB_lo e.1 (by have := h.1; omega)
  have a4 := gD_lo 3 (ub e.2.1)
  unfold eT
  dsimp only
  split
  · refine sLo_app (sLo_app ?_ a1) a2
    split
    · split
      · exact sLo_app (sLo_app a3 a1) a2
      · exact a3
    · refine sLo_app (sLo_app ?_ a1) a4
      split
      · exact sLo_app (sLo_app a3 a1) a2
      · exact a3
  · split
    · split
      · exact sLo_app (sLo_app a3 a1) a2
      · exact a3
    · refine sLo_app (sLo_app ?_ a1) a4
      split
      · exact sLo_app (sLo_app a3 a1) a2
      · exact a3
theorem lOk1 {v : mV} (h : lOk v = true) : ∀ x ∈ [v], lOk x = true := fun x hx => by
  rw [List.mem_singleton.mp hx]
  exact h
theorem lc_app {g : mG} {M0 M : mM} {t : List Int32} {x : Int32} (hS : LN M0 t M) (h : t.length < 16) (hc : ∃ k : Nat, k < 128 ∧ x = nI k) {R : mM → Prop} (k : ∀ M2, LN M0 (t ++ [x]) (MB M M2) → R M2) :
    ∃ (rs : List mV) (q : List Int32 × Nat), ([.inr (some 48), .inl x] = (.inr (some 48) :: rs : List mV) ∧ (∀ v ∈ rs, lOk v = true) ∧ xpre_J4_append_cf468 q (gL g) (.inr (some 0) :: rs) (ML M)) ∧ ∀ M2 : mM, xpost_J4_append_cf468 q (.inr (some 0) :: rs) (ML M) M2 → R M2 := by
  obtain ⟨c, hc, rfl⟩ := hc
  exact ⟨[.inl (nI c)], (t, c), ⟨rfl, lOk1 rfl, rfl, hS.1, h, hc⟩, fun M2 z => k M2 (hS.put z.1)⟩
theorem ls_app {g : mG} {M0 M : mM} {t : List Int32} {w : Nat} (hS : LN M0 t M) (hw : w < 17) (h : t.length + (wB w).length ≤ 16) {R : mM → Prop} (k : ∀ M2, LN M0 (t ++ wB w) (MB M M2) → R M2) :
    ∃ (rs : List mV) (q : Nat × List Int32 × List Int32), ([.inr (some 48), .inr (some (1000 + w))] = (.inr (some 48) :: rs : List mV) ∧ (∀ v ∈ rs, lOk v = true) ∧ xpre_J4_append_15ec4 q (gL g) (.inr (some 0) :: rs) (ML M)) ∧ ∀ M2 : mM, xpost_J4_append_15ec4 q (.inr (some 0) :: rs) (ML M) M2 → R M2 :=
  ⟨[.inr (some (1000 + w))], (1000 + w, wB w, t), ⟨rfl, lOk1 (by unfold lOk; rw [Nat.ble_eq]; omega), rfl, Or.inl ⟨w, hw, rfl, rfl⟩, hS.1, wB_lo w hw, h⟩, fun M2 z => k M2 (hS.put z.1)⟩
theorem li_app {g : mG} {M0 M : mM} {t : List Int32} {x : Int32} (hS : LN M0 t M) (hx : ub x < 1000000) (h : t.length + (gD 3 (ub x)).length ≤ 16) {R : mM → Prop} (k : ∀ M2, LN M0 (t ++ gD 3 (ub x)) (MB M M2) → R M2) :
    ∃ (rs : List mV) (q : Nat × List Int32), ([.inr (some 48), .inl x] = (.inr (some 48) :: rs : List mV) ∧ (∀ v ∈ rs, lOk v = true) ∧ xpre_J4_append_bf812 q (gL g) (.inr (some 0) :: rs) (ML M)) ∧ ∀ M2 : mM, xpost_J4_append_bf812 q (.inr (some 0) :: rs) (ML M) M2 → R M2 :=
  ⟨[.inl x], (ub x, t), ⟨rfl, lOk1 rfl, by rw [nI_ub], hx, hS.1, h⟩, fun M2 z => k M2 (hS.put z.1)⟩
theorem l0_set {g : mG} {M : mM} (hS : RpLn M) {R : mM → Prop} (k : ∀ M2, LN M [] (MB M M2) → R M2) :
    ∃ (rs : List mV) (q : Nat), ([.inr (some 48), .inl (nI 0)] = (.inr (some 48) :: rs : List mV) ∧ (∀ v ∈ rs, lOk v = true) ∧ xpre_J4_setLength_d00df q (gL g) (.inr (some 0) :: rs) (ML M)) ∧ ∀ M2 : mM, xpost_J4_setLength_d00df q (.inr (some 0) :: rs) (ML M) M2 → R M2 := by
  obtain ⟨h1, n, hn, h2⟩ := hS
  refine ⟨[.inl (nI 0)], n, ⟨rfl, lOk1 rfl, rfl, h1, h2, hn⟩, fun M2 z => k M2 ⟨⟨?_, ?_, Nat.zero_le _, fun j hj => absurd hj (Nat.not_lt_zero j)⟩, fun c h1 h2 => MB_ne h1 h2⟩⟩
  · rw [ML_MB0]
    exact z.1
  · rw [ML_MB0]
    exact z.2.1
def pre_X7_writeLine (q : aA) (as : List mV) (M : mM) : Prop := as = [.inr (some 0), .inl (nI q.1), .inl q.2.1, .inl q.2.2] ∧ eOk q ∧ RpLn M
def post_X7_writeLine (q : aA) (_ : List mV) (M M' : mM) : Prop := LN M (eT q) M'
abbrev t_X7_writeLine : mG → mT := mRv pre_X7_writeLine post_X7_writeLine
theorem mo_X7_writeLine : mMn t_X7_writeLine := mRv_mono
theorem rv_X7_writeLine : xHasR mSH yX7_writeLine 3 t_X7_writeLine := by
  intro g as M P hT hl
  obtain ⟨q, ⟨h1, -⟩, -⟩ := hT
  exact ⟨_, _, h1, is_X7 g 0 rfl⟩
def k_X7_writeLine : List (Nat × mI) := [(0, .aload_n 0, 1, 0, 0, []),
  (1, .getfield 45, 3, 0, 0, []),
  (4, .iconst 0, 1, 0, nI 0, []),
  (5, .invokevirtual 306, 3, 0, 0, []),
  (8, .aload_n 0, 1, 0, 0, []),
  (9, .getfield 45, 3, 0, 0, []),
  (12, .iload_n 1, 1, 1, 0, []),
  (13, .invokestatic 309, 3, 0, 0, []),
  (16, .invokevirtual 313, 3, 0, 0, []),
  (19, .pop, 1, 0, 0, []),
  (20, .iload_n 1, 1, 1, 0, []),
  (21, .iconst 5, 1, 0, nI 5, []),
  (22, .if_icmp .ne 25, 3, 47, 0, []),
  (25, .aload_n 0, 1, 0, 0, []),
  (26, .getfield 45, 3, 0, 0, []),
  (29, .bipush 32, 2, 0, nI 32, []),
  (31, .invokevirtual 317, 3, 0, 0, []),
  (34, .pop, 1, 0, 0, []),
  (35, .aload_n 0, 1, 0, 0, []),
  (36, .getfield 45, 3, 0, 0, []),
  (39, .iload_n 3, 1, 3, 0, []),
  (40, .invokestatic 320, 3, 0, 0, []),
  (43, .invokevirtual 317, 3, 0, 0, []),
  (46, .pop, 1, 0, 0, []),
  (47, .iload_n 2, 1, 2, 0, []),
  (48, .iconst (-1), 1, 0, -1, []),
  (49, .if_icmp .eq 22, 3, 71, 0, []),
  (52, .aload_n 0, 1, 0, 0, []),
  (53, .getfield 45, 3, 0, 0, []),
  (56, .bipush 32, 2, 0, nI 32, []),
  (58, .invokevirtual 317, 3, 0, 0, []),
  (61, .pop, 1, 0, 0, []),
  (62, .aload_n 0, 1, 0, 0, []),
  (63, .getfield 45, 3, 0, 0, []),
  (66, .iload_n 2, 1, 2, 0, []),
  (67, .invokevirtual 323, 3, 0, 0, []),
  (70, .pop, 1, 0, 0, []),
  (71, .iload_n 1, 1, 1, 0, []),
  (72, .iconst 1, 1, 0, nI 1, []),
  (73, .if_icmp .ne 25, 3, 98, 0, []),
  (76, .aload_n 0, 1, 0, 0, []),
  (77, .getfield 45, 3, 0, 0, []),
  (80, .bipush 32, 2, 0, nI 32, []),
  (82, .invokevirtual 317, 3, 0, 0, []),
  (85, .pop, 1, 0, 0, []),
  (86, .aload_n 0, 1, 0, 0, []),
  (87, .getfield 45, 3, 0, 0, []),
  (90, .iload_n 3, 1, 3, 0, []),
  (91, .invokestatic 320, 3, 0, 0, []),
  (94, .invokevirtual 317, 3, 0, 0, []),
  (97, .pop, 1, 0, 0, []),
  (98, .return_, 1, 0, 0, [])]
theorem kk_X7_writeLine : (k_X7_writeLine.all fun e => mChk cX7_writeLine e.1 e.2) = true := by decide +kernel
def l_X7_writeLine : List (Nat × Nat × (mG → mT)) := [(3 * 306, 1 + 1, (tLv xpre_J4_setLength_d00df xpost_J4_setLength_d00df)), (3 * 309 + 1, 1, t_X7_wordText), (3 * 313, 1 + 1, (tLa xpre_J4_append_15ec4 xpost_J4_append_15ec4)), (3 * 317, 1 + 1, (tLa xpre_J4_append_cf468 xpost_J4_append_cf468)), (3 * 320 + 1, 1, t_X7_suitLetter), (3 * 323, 1 + 1, (tLa xpre_J4_append_bf812 xpost_J4_append_bf812))]
def f_X7_writeLine (g : mG) : mF := (mLk k_X7_writeLine, mLk fl_RX7, mLk (l_X7_writeLine.map fun e => (e.1, e.2.1, e.2.2 g)), mLk ([] : List (Nat × mV)), mLk ([] : List (Nat × mV)), none)
theorem m_X7_writeLine (g : mG) : mMono (f_X7_writeLine g) := mMonoL (g := g) (l := l_X7_writeLine) (List.forall_mem_cons.mpr ⟨tLv_mono, List.forall_mem_cons.mpr ⟨mo_X7_wordText, List.forall_mem_cons.mpr ⟨tLa_mono, List.forall_mem_cons.mpr ⟨tLa_mono, List.forall_mem_cons.mpr ⟨mo_X7_suitLetter, List.forall_mem_cons.mpr ⟨tLa_mono, fun _ h => absurd h List.not_mem_nil⟩⟩⟩⟩⟩⟩) rfl

theorem v_wlA (g : mG) (M : mM) (P : mP) (w : Nat) (num su : Int32)
    (h : ∃ (rs1 : List mV) (x2 : Nat), ([.inr (some 48), .inl (nI 0)] = .inr (some 48) :: rs1 ∧ (∀ v ∈ rs1, lOk v = true) ∧ xpre_J4_setLength_d00df x2 (gL g) (.inr (some 0) :: rs1) (ML M)) ∧ ∀ M3 : mM, xpost_J4_setLength_d00df x2 (.inr (some 0) :: rs1) (ML M) M3 → (let M4 : mM := MB M M3; t_X7_wordText g [.inl (nI w)] M4 (fun r M2 => mRun (mSx g) (f_X7_writeLine g) P (16, [some (.inr (some 0)), some (.inl (nI w)), some (.inl num), some (.inl su)], mRes r [.inr (some 48)], M2)))) :
    mRun (mSx g) (f_X7_writeLine g) P (0, [some (.inr (some 0)), some (.inl (nI w)), some (.inl num), some (.inl su)], [], M) := mRun.vc (m_X7_writeLine g) [16] 8 h

theorem v_wlA2 (g : mG) (M : mM) (P : mP) (w : Nat) (num su : Int32)
    (h : ∃ (rs1 : List mV) (x2 : Nat × List Int32 × List Int32), ([.inr (some 48), .inr (some (1000 + w))] = .inr (some 48) :: rs1 ∧ (∀ v ∈ rs1, lOk v = true) ∧ xpre_J4_append_15ec4 x2 (gL g) (.inr (some 0) :: rs1) (ML M)) ∧ ∀ M3 : mM, xpost_J4_append_15ec4 x2 (.inr (some 0) :: rs1) (ML M) M3 → (let M4 : mM := MB M M3; (¬ (nI w) = (nI 5) → mRun (mSx g) (f_X7_writeLine g) P (47, [some (.inr (some 0)), some (.inl (nI w)), some (.inl num), some (.inl su)], [], M4)) ∧ (¬ (¬ (nI w) = (nI 5)) → ∃ (rs6 : List mV) (x7 : List Int32 × Nat), ([.inr (some 48), .inl (nI 32)] = .inr (some 48) :: rs6 ∧ (∀ v ∈ rs6, lOk v = true) ∧ xpre_J4_append_cf468 x7 (gL g) (.inr (some 0) :: rs6) (ML M4)) ∧ ∀ M8 : mM, xpost_J4_append_cf468 x7 (.inr (some 0) :: rs6) (ML M4) M8 → (let M9 : mM := MB M4 M8; ∃ (rs10 : List mV) (x11 : List Int32 × Nat), ([.inr (some 48), .inl (fLetter su)] = .inr (some 48) :: rs10 ∧ (∀ v ∈ rs10, lOk v = true) ∧ xpre_J4_append_cf468 x11 (gL g) (.inr (some 0) :: rs10) (ML M9)) ∧ ∀ M12 : mM, xpost_J4_append_cf468 x11 (.inr (some 0) :: rs10) (ML M9) M12 → (let M13 : mM := MB M9 M12; mRun (mSx g) (f_X7_writeLine g) P (47, [some (.inr (some 0)), some (.inl (nI w)), some (.inl num), some (.inl su)], [], M13)))))) :
    mRun (mSx g) (f_X7_writeLine g) P (16, [some (.inr (some 0)), some (.inl (nI w)), some (.inl num), some (.inl su)], [.inr (some (1000 + w)), .inr (some 48)], M) := mRun.vc (m_X7_writeLine g) [47] 17 h

theorem v_wlB (g : mG) (M : mM) (P : mP) (w : Nat) (num su : Int32)
    (h : (num = (-1) → mRun (mSx g) (f_X7_writeLine g) P (71, [some (.inr (some 0)), some (.inl (nI w)), some (.inl num), some (.inl su)], [], M)) ∧ (¬ (num = (-1)) → ∃ (rs2 : List mV) (x3 : List Int32 × Nat), ([.inr (some 48), .inl (nI 32)] = .inr (some 48) :: rs2 ∧ (∀ v ∈ rs2, lOk v = true) ∧ xpre_J4_append_cf468 x3 (gL g) (.inr (some 0) :: rs2) (ML M)) ∧ ∀ M4 : mM, xpost_J4_append_cf468 x3 (.inr (some 0) :: rs2) (ML M) M4 → (let M5 : mM := MB M M4; ∃ (rs6 : List mV) (x7 : Nat × List Int32), ([.inr (some 48), .inl num] = .inr (some 48) :: rs6 ∧ (∀ v ∈ rs6, lOk v = true) ∧ xpre_J4_append_bf812 x7 (gL g) (.inr (some 0) :: rs6) (ML M5)) ∧ ∀ M8 : mM, xpost_J4_append_bf812 x7 (.inr (some 0) :: rs6) (ML M5) M8 → (let M9 : mM := MB M5 M8; mRun (mSx g) (f_X7_writeLine g) P (71, [some (.inr (some 0)), some (.inl (nI w)), some (.inl num), some (.inl su)], [], M9))))) :
    mRun (mSx g) (f_X7_writeLine g) P (47, [some (.inr (some 0)), some (.inl (nI w)), some (.inl num), some (.inl su)], [], M) := mRun.vc (m_X7_writeLine g) [71] 14 h

theorem v_wlC (g : mG) (M : mM) (P : mP) (w : Nat) (num su : Int32)
    (h : (¬ (nI w) = (nI 1) → P none M) ∧ (¬ (¬ (nI w) = (nI 1)) → ∃ (rs2 : List mV) (x3 : List Int32 × Nat), ([.inr (some 48), .inl (nI 32)] = .inr (some 48) :: rs2 ∧ (∀ v ∈ rs2, lOk v = true) ∧ xpre_J4_append_cf468 x3 (gL g) (.inr (some 0) :: rs2) (ML M)) ∧ ∀ M4 : mM, xpost_J4_append_cf468 x3 (.inr (some 0) :: rs2) (ML M) M4 → (let M5 : mM := MB M M4; ∃ (rs6 : List mV) (x7 : List Int32 × Nat), ([.inr (some 48), .inl (fLetter su)] = .inr (some 48) :: rs6 ∧ (∀ v ∈ rs6, lOk v = true) ∧ xpre_J4_append_cf468 x7 (gL g) (.inr (some 0) :: rs6) (ML M5)) ∧ ∀ M8 : mM, xpost_J4_append_cf468 x7 (.inr (some 0) :: rs6) (ML M5) M8 → (let M9 : mM := MB M5 M8; P none M9)))) :
    mRun (mSx g) (f_X7_writeLine g) P (71, [some (.inr (some 0)), some (.inl (nI w)), some (.inl num), some (.inl su)], [], M) := mRun.vc (m_X7_writeLine g) [] 15 h

theorem wl_C (g : mG) (P : mP) (M0 : mM) (w : Nat) (num su : Int32) (t : List Int32) (M : mM) (hw : w < 9) (hS : LN M0 t M) (hl : t.length + 2 ≤ 16) (hP : ∀ M', LN M0 (if w = 1 then t ++ [nI 32] ++ [fLetter su] else t) M' → P none M') :
    mRun (mSx g) (f_X7_writeLine g) P (71, [some (.inr (some 0)), some (.inl (nI w)), some (.inl num), some (.inl su)], [], M) := by
  refine v_wlC g M P w num su ⟨fun h => hP _ ?_, fun h => ?_⟩
  · rw [if_neg (fun z => h (by rw [z]))]
    exact hS
  · have h1 : w = 1 := (nI_eq (by omega) (by decide)).mp (Classical.not_not.mp h)
    rw [if_pos h1] at hP
    refine lc_app hS (by omega) ⟨32, by decide, rfl⟩ (fun M2 h2 => ?_)
    intro M5
    refine lc_app (M := M5) h2 (by rw [List.length_append]; show t.length + 1 < 16; omega) (fL_lo su) (fun M3 h3 => ?_)
    exact hP _ h3
theorem wl_B (g : mG) (P : mP) (M0 : mM) (w : Nat) (num su : Int32) (t : List Int32) (M : mM) (hw : w < 9) (hn : num = -1 ∨ ub num < 1000000) (hS : LN M0 t M) (hl : t.length + (if w = 1 then 2 else 0) ≤ 8) (hP : ∀ M', LN M0 (if w = 1 then (if num = -1 then t else t ++ [nI 32] ++ gD 3 (ub num)) ++ [nI 32] ++ [fLetter su] else (if num = -1 then t else t ++ [nI 32] ++ gD 3 (ub num))) M' → P none M') :
    mRun (mSx g) (f_X7_writeLine g) P (47, [some (.inr (some 0)), some (.inl (nI w)), some (.inl num), some (.inl su)], [], M) := by
  have hl2 : t.length ≤ 8 := by omega
  refine v_wlB g M P w num su ⟨fun h => ?_, fun h => ?_⟩
  · rw [if_pos h] at hP
    exact wl_C g P M0 w num su t M hw hS (by omega) hP
  · rw [if_neg h] at hP
    have hk := hn.resolve_left h
    have hg := gD_len hk
    refine lc_app hS (by omega) ⟨32, by decide, rfl⟩ (fun M2 h2 => ?_)
    intro M5
    refine li_app (M := M5) h2 hk (by rw [List.length_append]; show t.length + 1 + _ ≤ 16; omega) (fun M3 h3 => ?_)
    by_cases h1 : w = 1
    · rw [if_pos h1] at hl
      exact wl_C g P M0 w num su _ _ hw h3 (by rw [List.length_append, List.length_append]; show t.length + 1 + _ + 2 ≤ 16; omega) hP
    · refine v_wlC g _ P w num su ⟨fun _ => ?_, fun z => absurd (fun z => h1 ((nI_eq (by omega) (by decide)).mp z)) z⟩
      rw [if_neg h1] at hP
      exact hP _ h3
set_option maxHeartbeats 1000000 in
theorem run_X7_writeLine : xRunOf mSH 4 t_X7_writeLine f_X7_writeLine := fun g as M P hT => by
  obtain ⟨⟨w, num, su⟩, ⟨rfl, ⟨hw, hn⟩, hL⟩, hP⟩ := hT
  refine ⟨Nat.le_of_ble_eq_true rfl, ?_⟩
  dsimp only at hw hn hL
  have hP' : ∀ M', LN M (eT (w, num, su)) M' → P none M' := fun M' h => hP M' h
  have hwl := wB_len2 w hw
  refine v_wlA g M P w num su (l0_set hL (fun M2 h0 => ?_))
  intro M4
  refine wt_at hw ?_
  refine v_wlA2 g M4 P w num su (ls_app h0 (by omega) (by show 0 + _ ≤ 16; omega) (fun M3 h1 => ?_))
  intro M5
  have h1' : LN M (wB w) M5 := h1
  refine ⟨fun h => ?_, fun h => ?_⟩
  · have h5 : w ≠ 5 := fun z => h (by rw [z])
    rw [if_neg h5] at hwl
    refine wl_B g P M w num su (wB w) M5 hw hn h1' (by omega) (fun M' z => hP' M' ?_)
    unfold eT
    dsimp only
    rw [if_neg h5]
    exact z
  · have h5 : w = 5 := (nI_eq (by omega) (by decide)).mp (Classical.not_not.mp h)
    rw [if_pos h5] at hwl
    refine lc_app (M := M5) h1' (by omega) ⟨32, by decide, rfl⟩ (fun M6 h6 => ?_)
    intro M9
    refine lc_app (M := M9) h6 (by rw [List.length_append]; show _ + 1 < 16; omega) (fL_lo su) (fun M7 h7 => ?_)
    refine wl_B g P M w num su _ _ hw hn h7 (by rw [List.length_append, List.length_append]; show (wB w).length + 1 + 1 + _ ≤ 8; omega) (fun M' z => hP' M' ?_)
    unfold eT
    dsimp only
    rw [if_pos h5]
    exact z
theorem ok_X7_writeLine : xOK mSH yX7_writeLine cX7_writeLine 4 (none) 6 t_X7_writeLine := xOK.of f_X7_writeLine (by decide) (fun _ => rfl) (fun g => mCodeOK kk_X7_writeLine) (fun g => mFldL fk_RX7 rfl) (fun g idx v h => by cases h) (fun g idx v h => by cases h) (xCalL (l := l_X7_writeLine) (List.forall_mem_cons.mpr ⟨xSite.Lv (idx := 306) xok_J4_setLength_d00df (by decide) (by decide) rfl wc_J4_setLength_d00df wk_RX7_306 wi_J4_setLength_d00df wl_J4_setLength_d00df wn_RJ4 wd_J4_setLength_d00df, List.forall_mem_cons.mpr ⟨xSite.S (idx := 309) (xOKm ok_X7_wordText) (fun _ h => xIn h) (by decide) (by decide) wc_X7_wordText wk_RX7_309 wt_X7_wordText wn_RX7 wd_X7_wordText, List.forall_mem_cons.mpr ⟨xSite.La (idx := 313) xok_J4_append_15ec4 (by decide) (by decide) rfl wc_J4_append_15ec4 wk_RX7_313 wi_J4_append_15ec4 wl_J4_append_15ec4 wn_RJ4 wd_J4_append_15ec4, List.forall_mem_cons.mpr ⟨xSite.La (idx := 317) xok_J4_append_cf468 (by decide) (by decide) rfl wc_J4_append_cf468 wk_RX7_317 wi_J4_append_cf468 wl_J4_append_cf468 wn_RJ4 wd_J4_append_cf468, List.forall_mem_cons.mpr ⟨xSite.S (idx := 320) (xOKm ok_X7_suitLetter) (fun _ h => xIn h) (by decide) (by decide) wc_X7_suitLetter wk_RX7_320 wt_X7_suitLetter wn_RX7 wd_X7_suitLetter, List.forall_mem_cons.mpr ⟨xSite.La (idx := 323) xok_J4_append_bf812 (by decide) (by decide) rfl wc_J4_append_bf812 wk_RX7_323 wi_J4_append_bf812 wl_J4_append_bf812 wn_RJ4 wd_J4_append_bf812, fun _ h => absurd h List.not_mem_nil⟩⟩⟩⟩⟩⟩) (fun _ => rfl)) run_X7_writeLine

theorem okL_at2 : ∀ {l : List aA} {T : aT}, okL l T → ∀ {j : Nat} {a : aA}, l[j]? = some a → ∃ T', fit T' a
  | [], _, _, j, a, hj => by simp at hj
  | b :: l, T, h, 0, a, hj => by
    cases hj
    exact ⟨T, h.1⟩
  | b :: l, T, h, j + 1, a, hj => okL_at2 (l := l) (T := tStep T b) h.2 (j := j) (by simpa using hj)
theorem fit_eOk {T : aT} {a : aA} (k : fit T a) : eOk a := by
  obtain ⟨f, f0, f1, f2, f3, f4, f5, f6, f7, f8⟩ := k
  refine ⟨f, ?_⟩
  rcases (by omega : a.1 = 0 ∨ a.1 = 1 ∨ a.1 = 2 ∨ a.1 = 3 ∨ a.1 = 4 ∨ a.1 = 5 ∨ a.1 = 6 ∨ a.1 = 7 ∨ a.1 = 8) with h | h | h | h | h | h | h | h | h
  · exact Or.inr (f0 h).2.1
  · have := (f1 h).2.2.1
    exact Or.inr (by omega)
  · exact Or.inl (f2 h).2.1
  · exact Or.inl (f3 h).2.2.1
  · exact Or.inl (f4 h).2.2.1
  · have := (f5 h).2.1
    exact Or.inr (by omega)
  · have := (f6 h).2.1
    exact Or.inr (by omega)
  · have := (f7 h).2.1
    exact Or.inr (by omega)
  · have := (f8 h).2.1
    exact Or.inr (by omega)
theorem zInv.eOk {z : aZ} (h : zInv z) {j : Nat} (hj : j < z.2.1.length) : eOk (eA z.2.1 j).1 := by
  obtain ⟨T, k⟩ := okL_at2 (l := lA z.2.1) h.2.1.2 (j := j) (a := (eA z.2.1 j).1) (by
    unfold lA eA
    rw [List.getElem?_map, List.getD_eq_getElem?_getD, List.getElem?_eq_getElem hj]
    rfl)
  exact fit_eOk k
/-- only the line (and what the reference has) has changed -/
theorem RpC_ln {M M' : mM} {z : aZ} (h : RpC M z) (e : ∀ c, c ≠ 48 → c ≠ 49 → M' c = M c) (hl : RpLn M') : RpC M' z := by
  obtain ⟨h1, h2, h3, h4, h5, -⟩ := h
  refine ⟨?_, RpL_fr h2 (fun k hk => e _ (by omega) (by omega)), ⟨?_, fun l hl => RpL_fr (h3.2 l hl) (fun k hk => e _ (by omega) (by omega))⟩, RpT_fr h4 (fun k hk => e _ (by omega) (by omega)), RpSh_fr h5 (fun c h1 h2 => e c (by omega) (by omega)), hl⟩
  · unfold RpTp
    rw [e 1 (by omega) (by omega), e 2 (by omega) (by omega)]
    exact h1
  · rw [e 0 (by omega) (by omega)]
    exact h3.1
def F_print (z : aZ) (as : List Int32) : Int32 × aZ := (match as with
  | [i, k] => match ix i z.2.1.length with
    | none => -12
    | some j => if k = -1 then nI (eT (eA z.2.1 j).1).length else match ix k (eT (eA z.2.1 j).1).length with
      | none => -12
      | some n => (eT (eA z.2.1 j).1).getD n 0
  | _ => 0, z)
abbrev t_X7_print : mG → mT := pub 2 F_print
theorem mo_X7_print : mMn t_X7_print := pub_mono
theorem rv_X7_print : xHasR mSH yX7_print 2 t_X7_print := by
  intro g as M P hT hl
  obtain ⟨q, ⟨h1, -⟩, -⟩ := hT
  exact ⟨_, _, h1, is_X7 g 0 rfl⟩
def k_X7_print : List (Nat × mI) := [(0, .iload_n 1, 1, 1, 0, []),
  (1, .ifCond .lt 14, 3, 15, 0, []),
  (4, .iload_n 1, 1, 1, 0, []),
  (5, .aload_n 0, 1, 0, 0, []),
  (6, .getfield 19, 3, 0, 0, []),
  (9, .getfield 96, 3, 0, 0, []),
  (12, .if_icmp .lt 6, 3, 18, 0, []),
  (15, .bipush (-12), 2, 0, -12, []),
  (17, .ireturn, 1, 0, 0, []),
  (18, .aload_n 0, 1, 0, 0, []),
  (19, .aload_n 0, 1, 0, 0, []),
  (20, .getfield 19, 3, 0, 0, []),
  (23, .getfield 103, 3, 0, 0, []),
  (26, .iload_n 1, 1, 1, 0, []),
  (27, .invokestatic 107, 3, 0, 0, []),
  (30, .aload_n 0, 1, 0, 0, []),
  (31, .getfield 19, 3, 0, 0, []),
  (34, .getfield 111, 3, 0, 0, []),
  (37, .iload_n 1, 1, 1, 0, []),
  (38, .invokestatic 107, 3, 0, 0, []),
  (41, .aload_n 0, 1, 0, 0, []),
  (42, .getfield 19, 3, 0, 0, []),
  (45, .getfield 114, 3, 0, 0, []),
  (48, .iload_n 1, 1, 1, 0, []),
  (49, .invokestatic 107, 3, 0, 0, []),
  (52, .invokevirtual 120, 3, 0, 0, []),
  (55, .iload_n 2, 1, 2, 0, []),
  (56, .iconst (-1), 1, 0, -1, []),
  (57, .if_icmp .ne 11, 3, 68, 0, []),
  (60, .aload_n 0, 1, 0, 0, []),
  (61, .getfield 45, 3, 0, 0, []),
  (64, .invokevirtual 123, 3, 0, 0, []),
  (67, .ireturn, 1, 0, 0, []),
  (68, .iload_n 2, 1, 2, 0, []),
  (69, .ifCond .lt 14, 3, 83, 0, []),
  (72, .iload_n 2, 1, 2, 0, []),
  (73, .aload_n 0, 1, 0, 0, []),
  (74, .getfield 45, 3, 0, 0, []),
  (77, .invokevirtual 123, 3, 0, 0, []),
  (80, .if_icmp .lt 6, 3, 86, 0, []),
  (83, .bipush (-12), 2, 0, -12, []),
  (85, .ireturn, 1, 0, 0, []),
  (86, .aload_n 0, 1, 0, 0, []),
  (87, .getfield 45, 3, 0, 0, []),
  (90, .iload_n 2, 1, 2, 0, []),
  (91, .invokevirtual 126, 3, 0, 0, []),
  (94, .ireturn, 1, 0, 0, [])]
theorem kk_X7_print : (k_X7_print.all fun e => mChk cX7_print e.1 e.2) = true := by decide +kernel
def l_X7_print : List (Nat × Nat × (mG → mT)) := [(3 * 107 + 1, 2, t_X7_at), (3 * 120, 3 + 1, t_X7_writeLine), (3 * 123, 0 + 1, (tLi xpre_J4_length_8abf5 xpost_J4_length_8abf5)), (3 * 126, 1 + 1, (tLi xpre_J4_charAt_5068e xpost_J4_charAt_5068e))]
def f_X7_print (g : mG) : mF := (mLk k_X7_print, mLk fl_RX7, mLk (l_X7_print.map fun e => (e.1, e.2.1, e.2.2 g)), mLk ([] : List (Nat × mV)), mLk ([] : List (Nat × mV)), some .int)
theorem m_X7_print (g : mG) : mMono (f_X7_print g) := mMonoL (g := g) (l := l_X7_print) (List.forall_mem_cons.mpr ⟨mo_X7_at, List.forall_mem_cons.mpr ⟨mo_X7_writeLine, List.forall_mem_cons.mpr ⟨tLi_mono, List.forall_mem_cons.mpr ⟨tLi_mono, fun _ h => absurd h List.not_mem_nil⟩⟩⟩⟩) rfl

set_option maxRecDepth 100000 in
theorem v_print (g : mG) (M : mM) (P : mP) (x y : Int32)
    (h : (x < 0 → P (some (.inl (-12))) M) ∧ (¬ (x < 0) → (x < (M 3 4) → ∃ x3 : aA, pre_X7_writeLine x3 [.inr (some 0), .inl (aAt (M 4) 90 x), .inl (aAt (M 5) 90 x), .inl (aAt (M 6) 90 x)] M ∧ ∀ M4 : mM, post_X7_writeLine x3 [.inr (some 0), .inl (aAt (M 4) 90 x), .inl (aAt (M 5) 90 x), .inl (aAt (M 6) 90 x)] M M4 → ((¬ y = (-1) → (y < 0 → P (some (.inl (-12))) M4) ∧ (¬ (y < 0) → ∃ (rs7 : List mV) (x8 : Unit), ([.inr (some 48)] = .inr (some 48) :: rs7 ∧ (∀ v ∈ rs7, lOk v = true) ∧ xpre_J4_length_8abf5 x8 (gL g) (.inr (some 0) :: rs7) (ML M4)) ∧ ∀ (r11 : Int32) (M9 : mM), xpost_J4_length_8abf5 x8 (.inr (some 0) :: rs7) (ML M4) r11 M9 → (let M10 : mM := MB M4 M9; (y < r11 → ∃ (rs13 : List mV) (x14 : List Int32 × Nat), ([.inr (some 48), .inl y] = .inr (some 48) :: rs13 ∧ (∀ v ∈ rs13, lOk v = true) ∧ xpre_J4_charAt_5068e x14 (gL g) (.inr (some 0) :: rs13) (ML M10)) ∧ ∀ (r17 : Int32) (M15 : mM), xpost_J4_charAt_5068e x14 (.inr (some 0) :: rs13) (ML M10) r17 M15 → (let M16 : mM := MB M10 M15; P (some (.inl r17)) M16)) ∧ (¬ (y < r11) → P (some (.inl (-12))) M10)))) ∧ (¬ (¬ y = (-1)) → ∃ (rs18 : List mV) (x19 : Unit), ([.inr (some 48)] = .inr (some 48) :: rs18 ∧ (∀ v ∈ rs18, lOk v = true) ∧ xpre_J4_length_8abf5 x19 (gL g) (.inr (some 0) :: rs18) (ML M4)) ∧ ∀ (r22 : Int32) (M20 : mM), xpost_J4_length_8abf5 x19 (.inr (some 0) :: rs18) (ML M4) r22 M20 → (let M21 : mM := MB M4 M20; P (some (.inl r22)) M21)))) ∧ (¬ (x < (M 3 4)) → P (some (.inl (-12))) M))) :
    mRun (mSx g) (f_X7_print g) P (0, [some (.inr (some 0)), some (.inl x), some (.inl y)], [], M) := mRun.vc (m_X7_print g) [] 39 h

theorem ll_len {g : mG} {M0 M : mM} {t : List Int32} (hS : LN M0 t M) {R : Int32 → mM → Prop} (k : ∀ M2, LN M0 t (MB M M2) → R (nI t.length) M2) :
    ∃ (rs : List mV) (q : Unit), ([.inr (some 48)] = (.inr (some 48) :: rs : List mV) ∧ (∀ v ∈ rs, lOk v = true) ∧ xpre_J4_length_8abf5 q (gL g) (.inr (some 0) :: rs) (ML M)) ∧ ∀ (v : Int32) (M2 : mM), xpost_J4_length_8abf5 q (.inr (some 0) :: rs) (ML M) v M2 → R v M2 := by
  refine ⟨[], (), ⟨rfl, fun v hv => absurd hv List.not_mem_nil, rfl, trivial⟩, fun v M2 z => ?_⟩
  obtain ⟨z1, z2⟩ : v = ML M 0 3 ∧ M2 = ML M := z
  rw [z1, hS.1.2.1]
  exact k M2 (hS.put (by rw [z2]; exact hS.1))
theorem lr_at {g : mG} {M0 M : mM} {t : List Int32} {n : Nat} (hS : LN M0 t M) (hl : sLo t) (hn : n < t.length) {R : Int32 → mM → Prop} (k : ∀ M2, LN M0 t (MB M M2) → R (t.getD n 0) M2) :
    ∃ (rs : List mV) (q : List Int32 × Nat), ([.inr (some 48), .inl (nI n)] = (.inr (some 48) :: rs : List mV) ∧ (∀ v ∈ rs, lOk v = true) ∧ xpre_J4_charAt_5068e q (gL g) (.inr (some 0) :: rs) (ML M)) ∧ ∀ (v : Int32) (M2 : mM), xpost_J4_charAt_5068e q (.inr (some 0) :: rs) (ML M) v M2 → R v M2 := by
  refine ⟨[.inl (nI n)], (t, n), ⟨rfl, lOk1 rfl, rfl, hS.1, hl, hn⟩, fun v M2 z => ?_⟩
  obtain ⟨z1, z2⟩ : v = t.getD n 0 ∧ M2 = ML M := z
  rw [z1]
  exact k M2 (hS.put (by rw [z2]; exact hS.1))
set_option maxHeartbeats 1000000 in
theorem run_X7_print : xRunOf mSH 3 t_X7_print f_X7_print := runC2 (by decide) (fun g M P z x y hR hI hP => by
  obtain ⟨l1, l2⟩ := hR.2.1
  have hlen := hI.2.1.1
  refine v_print g M P x y ?_
  rw [l1]
  rcases ix_cs x (n := z.2.1.length) (by omega) with ⟨hi, e2⟩ | ⟨j, hj, rfl, e2⟩
  · have hc : F_print z [x, y] = (-12, z) := by simp only [F_print, e2]
    rw [hc] at hP
    exact ⟨fun _ => hP _ _ rfl hR FrC.refl, fun h1 => ⟨fun h2 => absurd h2 (Int32.not_lt.mpr (hi.resolve_left h1)), fun _ => hP _ _ rfl hR FrC.refl⟩⟩
  · obtain ⟨a1, a2, a3, a4⟩ := l2 j hj
    have q : ∀ (f : Nat → Int32), aAt f 90 (nI j) = f j := fun f => aAt_in (by omega) (by decide)
    have hok := hI.eOk hj
    have hlo := eT_lo _ hok
    have hc : F_print z [nI j, y] = (if y = -1 then nI (eT (eA z.2.1 j).1).length else match ix y (eT (eA z.2.1 j).1).length with
      | none => -12
      | some n => (eT (eA z.2.1 j).1).getD n 0, z) := by simp only [F_print, e2]
    refine ⟨fun h => absurd h (nI_pos (by omega)), fun _ => ⟨fun _ => ?_, fun h => absurd (nI_lt hj (by omega)) h⟩⟩
    rw [q, q, q]
    refine ⟨(eA z.2.1 j).1, ⟨by rw [show M 4 j = _ from a1, show M 5 j = _ from a2, show M 6 j = _ from a3], hok, hR.2.2.2.2.2⟩, fun M4 h4 => ?_⟩
    have hL : LN M (eT (eA z.2.1 j).1) M4 := h4
    generalize eT (eA z.2.1 j).1 = t at hL hlo hc
    have hfin : ∀ (v : Int32) (N : mM), LN M t N → v = (F_print z [nI j, y]).1 → P (some (.inl v)) N := fun v N h e => hP v N e (by rw [hc]; exact RpC_ln hR h.2 h.ln) (fun c hc => h.2 c (by omega) (by omega))
    rw [hc] at hfin
    have ht : t.length ≤ 16 := hL.1.2.2.1
    refine ⟨fun h => ?_, fun h => ?_⟩
    · rw [if_neg h] at hfin
      refine ⟨fun h1 => hfin _ _ hL ?_, fun h1 => ll_len hL (fun M9 h9 => ?_)⟩
      · rw [ix_no (Or.inl h1)]
      · intro M10
        refine ⟨fun h2 => ?_, fun h2 => hfin _ _ h9 ?_⟩
        · rcases ix_cs y (n := t.length) (by omega) with ⟨hi, e3⟩ | ⟨n, hn, rfl, e3⟩
          · exact absurd h2 (Int32.not_lt.mpr (hi.resolve_left h1))
          · rw [e3] at hfin
            exact lr_at (M := M10) h9 hlo hn (fun M16 h16 => hfin _ _ h16 rfl)
        · rw [ix_no (Or.inr (Int32.not_lt.mp h2))]
    · rw [if_pos (Classical.not_not.mp h)] at hfin
      exact ll_len hL (fun M9 h9 => hfin _ _ h9 rfl))

theorem ok_X7_print : xOK mSH yX7_print cX7_print 3 (some .int) 7 t_X7_print := xOK.of f_X7_print (by decide) (fun _ => rfl) (fun g => mCodeOK kk_X7_print) (fun g => mFldL fk_RX7 rfl) (fun g idx v h => by cases h) (fun g idx v h => by cases h) (xCalL (l := l_X7_print) (List.forall_mem_cons.mpr ⟨xSite.S (idx := 107) (xOKm ok_X7_at) (fun _ h => xIn h) (by decide) (by decide) wc_X7_at wk_RX7_107 wt_X7_at wn_RX7 wd_X7_at, List.forall_mem_cons.mpr ⟨xSite.V (idx := 120) ok_X7_writeLine (fun _ h => h) (by decide) (by decide) rv_X7_writeLine wc_X7_writeLine wk_RX7_120 wi_X7_writeLine wl_X7_writeLine wn_RX7 wd_X7_writeLine, List.forall_mem_cons.mpr ⟨xSite.Li (idx := 123) xok_J4_length_8abf5 (by decide) (by decide) rfl wc_J4_length_8abf5 wk_RX7_123 wi_J4_length_8abf5 wl_J4_length_8abf5 wn_RJ4 wd_J4_length_8abf5, List.forall_mem_cons.mpr ⟨xSite.Li (idx := 126) xok_J4_charAt_5068e (by decide) (by decide) rfl wc_J4_charAt_5068e wk_RX7_126 wi_J4_charAt_5068e wl_J4_charAt_5068e wn_RJ4 wd_J4_charAt_5068e, fun _ h => absurd h List.not_mem_nil⟩⟩⟩⟩) (fun _ => rfl)) run_X7_print

