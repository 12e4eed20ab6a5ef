/-! ===== THE SMALL MACHINE'S WORLD ON THE HEAP ===== -/
def mFld (ad : Nat → Nat) (f : Nat → Int32) : Nat → List (Option Nat) → List Value
  | _, [] => []
  | k, none :: t => .int (f k) :: mFld ad f (k + 1) t
  | k, some c :: t => .ref (ad c) :: mFld ad f (k + 1) t
theorem mFld_int {ad : Nat → Nat} {f : Nat → Int32} : ∀ {rs : List (Option Nat)} {k j : Nat}, rs[j]? = some none → (mFld ad f k rs)[j]? = some (.int (f (k + j)))
  | none :: t, k, 0, _ => rfl
  | some c :: t, k, 0, h => by simp at h
  | none :: t, k, j + 1, h => by
    have := mFld_int (ad := ad) (f := f) (rs := t) (k := k + 1) (j := j) (by simpa using h)
    simp only [mFld, List.getElem?_cons_succ, this]
    congr 3
    omega
  | some c :: t, k, j + 1, h => by
    have := mFld_int (ad := ad) (f := f) (rs := t) (k := k + 1) (j := j) (by simpa using h)
    simp only [mFld, List.getElem?_cons_succ, this]
    congr 3
    omega
  | [], k, j, h => by simp at h
theorem mFld_ref {ad : Nat → Nat} {f : Nat → Int32} : ∀ {rs : List (Option Nat)} {k j c : Nat}, rs[j]? = some (some c) → (mFld ad f k rs)[j]? = some (.ref (ad c))
  | none :: t, k, 0, c, h => by simp at h
  | some d :: t, k, 0, c, h => by
    have e : d = c := by simpa using h
    subst e
    rfl
  | none :: t, k, j + 1, c, h => by
    have := mFld_ref (ad := ad) (f := f) (rs := t) (k := k + 1) (j := j) (c := c) (by simpa using h)
    simpa only [mFld, List.getElem?_cons_succ] using this
  | some d :: t, k, j + 1, c, h => by
    have := mFld_ref (ad := ad) (f := f) (rs := t) (k := k + 1) (j := j) (c := c) (by simpa using h)
    simpa only [mFld, List.getElem?_cons_succ] using this
  | [], k, j, c, h => by simp at h
theorem mFld_len {ad : Nat → Nat} {f : Nat → Int32} : ∀ {rs : List (Option Nat)} {k : Nat}, (mFld ad f k rs).length = rs.length
  | [], _ => rfl
  | none :: t, k => by simp [mFld, mFld_len (rs := t)]
  | some c :: t, k => by simp [mFld, mFld_len (rs := t)]
theorem mFld_far {ad : Nat → Nat} {f : Nat → Int32} {x : Int32} {q : Nat} : ∀ {rs : List (Option Nat)} {k : Nat}, q < k → mFld ad (upd f q x) k rs = mFld ad f k rs
  | [], _, _ => rfl
  | none :: t, k, h => by
    have e : upd f q x k = f k := by simp [upd, show k ≠ q by omega]
    simp only [mFld, e, mFld_far (rs := t) (show q < k + 1 by omega)]
  | some c :: t, k, h => by simp only [mFld, mFld_far (rs := t) (show q < k + 1 by omega)]
theorem mFld_set {ad : Nat → Nat} {x : Int32} : ∀ {rs : List (Option Nat)} {f : Nat → Int32} {k j : Nat}, rs[j]? = some none → (mFld ad f k rs).set j (.int x) = mFld ad (upd f (k + j) x) k rs
  | none :: t, f, k, 0, _ => by
    simp only [mFld, List.set_cons_zero, Nat.add_zero, mFld_far (rs := t) (show k < k + 1 by omega)]
    simp [upd]
  | some c :: t, f, k, 0, h => by simp at h
  | none :: t, f, k, j + 1, h => by
    have := mFld_set (ad := ad) (x := x) (rs := t) (f := f) (k := k + 1) (j := j) (by simpa using h)
    simp only [mFld, List.set_cons_succ, this]
    rw [show k + 1 + j = k + (j + 1) by omega]
    congr 2
    simp [upd]
  | some c :: t, f, k, j + 1, h => by
    have := mFld_set (ad := ad) (x := x) (rs := t) (f := f) (k := k + 1) (j := j) (by simpa using h)
    simp only [mFld, List.set_cons_succ, this]
    rw [show k + 1 + j = k + (j + 1) by omega]
  | [], f, k, j, h => by simp at h
def mEnt (ad : Nat → Nat) (cy : Nat → ClassId) (h : mH) (f : Nat → Int32) : va_E := match h.1 with
  | 0 => .inl (cy 0, h.2.1, .inl f)
  | 1 => .inl (cy 1, h.2.1, .inr (.inr (.inr (.inr (fun j => ((h.2.2[j]?).getD none).map ad)))))
  | 2 => .inl (cy 2, h.2.1, .inr (.inr (.inr (.inr (fun j => ((h.2.2[j]?).getD none).map ad)))))
  | 3 => .inl (cy 3, h.2.1, .inl f)
  | 4 => .inl (cy 0, 0, .inl f)
  | k + 5 => .inr (k, mFld ad f 0 h.2.2)
def mWs (ad : Nat → Nat) (cy : Nat → ClassId) (SH : List mH) (M : mM) : va_W := (List.range SH.length).map (fun c => (ad c, mEnt ad cy (SH.getD c (0, 0, [])) (M c)))
theorem mWs_get {ad : Nat → Nat} {cy : Nat → ClassId} {SH : List mH} {M : mM} {c : Nat} {h : mH} (hc : SH[c]? = some h) : (mWs ad cy SH M)[c]? = some (ad c, mEnt ad cy h (M c)) := by
  have hl : c < SH.length := (List.getElem?_eq_some_iff.mp hc).1
  have hg : SH.getD c (0, 0, []) = h := by rw [List.getD_eq_getElem?_getD, hc]; rfl
  simp only [mWs, List.getElem?_map, List.getElem?_range hl, Option.map_some, hg]
theorem mWs_len {ad : Nat → Nat} {cy : Nat → ClassId} {SH : List mH} {M : mM} : (mWs ad cy SH M).length = SH.length := by simp [mWs]
theorem mWs_set {ad : Nat → Nat} {cy : Nat → ClassId} {SH : List mH} {M : mM} {c : Nat} {h : mH} {g : Nat → Int32} (hc : SH[c]? = some h) : (mWs ad cy SH M).set c (ad c, mEnt ad cy h g) = mWs ad cy SH (mUp M c g) := by
  have hl : c < SH.length := (List.getElem?_eq_some_iff.mp hc).1
  have hg : SH.getD c (0, 0, []) = h := by rw [List.getD_eq_getElem?_getD, hc]; rfl
  apply List.ext_getElem?
  intro i
  by_cases hi : i < SH.length
  · by_cases e : c = i
    · subst e
      rw [List.getElem?_set_self (by rw [mWs_len]; exact hi)]
      simp only [mWs, List.getElem?_map, List.getElem?_range hi, Option.map_some, hg, mUp, if_true]
    · rw [List.getElem?_set_ne e]
      simp only [mWs, List.getElem?_map, List.getElem?_range hi, Option.map_some, mUp, if_neg (Ne.symm e)]
  · rw [List.getElem?_eq_none (by rw [List.length_set, mWs_len]; omega), List.getElem?_eq_none (by rw [mWs_len]; omega)]
theorem mWs_at {ad : Nat → Nat} {cy : Nat → ClassId} {SH : List mH} {M : mM} {k : Nat} {q : Nat × va_E} (h : (mWs ad cy SH M)[k]? = some q) : k < SH.length ∧ q.1 = ad k := by
  have hl : k < SH.length := by have := (List.getElem?_eq_some_iff.mp h).1; rw [mWs_len] at this; exact this
  simp only [mWs, List.getElem?_map, List.getElem?_range hl, Option.map_some] at h
  exact ⟨hl, by rw [← Option.some.inj h]⟩
theorem mWs_D {A : Nat → Prop} {ad : Nat → Nat} {cy : Nat → ClassId} {SH : List mH} {M : mM} (h : va_D A (mWs ad cy SH M)) (M' : mM) : va_D A (mWs ad cy SH M') := by
  refine ⟨fun i j p q hi hj hpq => ?_, fun k q hk => ?_⟩
  · obtain ⟨li, ei⟩ := mWs_at hi
    obtain ⟨lj, ej⟩ := mWs_at hj
    refine h.1 i j (ad i, mEnt ad cy SH[i] (M i)) (ad j, mEnt ad cy SH[j] (M j)) (mWs_get (List.getElem?_eq_getElem li)) (mWs_get (List.getElem?_eq_getElem lj)) ?_
    show ad i = ad j
    rw [← ei, ← ej]
    exact hpq
  · obtain ⟨lk, ek⟩ := mWs_at hk
    have := h.2 k _ (mWs_get (M := M) (cy := cy) (ad := ad) (List.getElem?_eq_getElem lk))
    rw [ek]
    exact this
def mTys (cy : Nat → ClassId) : List (ClassId × FieldType) := [(cy 0, .int), (cy 1, .array .int), (cy 2, .object RX4), (cy 3, .byte)]
def mLH (ls : Array Slot) (nL : Nat) (ad : Nat → Nat) (L : mL) : Prop := ls.size = nL ∧ lv_wf ls ∧ L.length = nL ∧ ∀ (i : Nat) (v : mV), L[i]? = some (some v) → ls[i]? = some (.val (mval ad v))
theorem mval_cat (ad : Nat → Nat) (v : mV) : (mval ad v).category = 1 := by
  rcases v with x | (_ | c) <;> rfl
def mAs (ad : Nat → Nat) (L : mL) : List (Nat × Value) := (List.range L.length).filterMap (fun i => match L[i]? with
  | some (some v) => some (i, mval ad v)
  | _ => none)
theorem mAs_mem {ad : Nat → Nat} {L : mL} {q : Nat × Value} : q ∈ mAs ad L ↔ ∃ v, L[q.1]? = some (some v) ∧ q.2 = mval ad v := by
  unfold mAs
  rw [List.mem_filterMap]
  constructor
  · rintro ⟨i, -, hi⟩
    split at hi
    · rename_i v hv
      cases hi
      exact ⟨v, hv, rfl⟩
    · cases hi
  · rintro ⟨v, hv, e⟩
    refine ⟨q.1, List.mem_range.mpr (List.getElem?_eq_some_iff.mp hv).1, ?_⟩
    rw [hv]
    simp [← e]
theorem mLH.has {ls : Array Slot} {nL : Nat} {ad : Nat → Nat} {L : mL} (h : mLH ls nL ad L) : lv_has ls nL (mAs ad L) := by
  refine ⟨h.1, h.2.1, fun q hq => ?_⟩
  obtain ⟨v, hv, e⟩ := mAs_mem.mp hq
  rw [e]
  exact h.2.2.2 _ _ hv
theorem mLH.set {ls ls' : Array Slot} {nL : Nat} {ad : Nat → Nat} {L : mL} {i : Nat} {v : mV} (h : mLH ls nL ad L) (hi : i < nL) (h' : lv_has ls' nL ((i, mval ad v) :: (mAs ad L).filter (fun q => !(q.1 == i) && !(q.1 + 1 == i && q.2.category == 2)))) : mLH ls' nL ad (L.set i (some v)) := by
  refine ⟨h'.1, h'.2.1, by rw [List.length_set]; exact h.2.2.1, fun j w hj => ?_⟩
  by_cases e : i = j
  · subst e
    rw [List.getElem?_set_self (by rw [h.2.2.1]; exact hi)] at hj
    cases hj
    exact h'.2.2 (i, mval ad v) List.mem_cons_self
  · rw [List.getElem?_set_ne e] at hj
    refine h'.2.2 (j, mval ad w) (List.mem_cons_of_mem _ (List.mem_filter.mpr ⟨mAs_mem.mpr ⟨w, hj, rfl⟩, ?_⟩))
    have e1 : (j == i) = false := by simp; omega
    have e2 : ((mval ad w).category == 2) = false := by rw [mval_cat]; rfl
    simp [e1, e2]
theorem mLH.entry {ad : Nat → Nat} (vs : List mV) {n : Nat} (h : vs.length ≤ n) : ∃ ls : Array Slot, (lg_sl (vs.map (mval ad)) ++ List.replicate (n - (lg_sl (vs.map (mval ad))).length) Slot.unset).toArray = ls ∧ mLH ls n ad (vs.map some ++ List.replicate (n - vs.length) none) := by
  have hsl : ∀ ws : List mV, lg_sl (ws.map (mval ad)) = ws.map (fun v => Slot.val (mval ad v)) := by
    intro ws
    induction ws with
    | nil => rfl
    | cons v t ih =>
      have hc : ¬ (mval ad v).category = 2 := by rw [mval_cat]; decide
      have e : lg_sl ((v :: t).map (mval ad)) = Slot.val (mval ad v) :: lg_sl (t.map (mval ad)) := by simp [lg_sl, hc]
      rw [e, ih]
      rfl
  have hlen : (lg_sl (vs.map (mval ad))).length = vs.length := by rw [hsl]; simp
  have he := lv_entry (vs.map (mval ad)) (n := n) (by rw [hlen]; exact h)
  refine ⟨_, rfl, he.1, he.2.1, by simp; omega, fun i v hi => ?_⟩
  have hlt : i < vs.length := by
    apply Classical.byContradiction
    intro hn
    rw [List.getElem?_append_right (by simp; omega)] at hi
    have := List.mem_of_getElem? hi
    rw [List.mem_replicate] at this
    cases this.2
  rw [List.getElem?_append_left (by simp; exact hlt)] at hi
  simp only [List.getElem?_map] at hi
  have hv : vs[i]? = some v := by
    cases hq : vs[i]? with
    | none => rw [hq] at hi; cases hi
    | some w => rw [hq] at hi; cases hi; rfl
  rw [hlen]
  simp only [List.getElem?_toArray]
  rw [List.getElem?_append_left (by rw [hlen]; exact hlt), hsl, List.getElem?_map, hv]
  rfl
