/-! ===== AN ARRAY OF INT ARRAYS: multianewarray of two lengths ===== -/
def mgO (cO : ClassId) (N h j : Nat) : Cell := arrV cO N (fun i => if i < j then .ref (h + 1 + i) else .null)
def mgI (cI : ClassId) (K : Nat) : Cell := arrV cI K (fun _ => .int 0)
/-- behind j rows -/
def mgS (T : State) (cO cI : ClassId) (N K : Nat) : Nat → State
  | 0 => T.pushCell (mgO cO N T.heap.size 0)
  | j + 1 => ((mgS T cO cI N K j).pushCell (mgI cI K)).setCell T.heap.size (mgO cO N T.heap.size (j + 1))
theorem mgO_put {cO : ClassId} {N h j : Nat} : (mgO cO N h j).setSlot j (.ref (h + 1 + j)) = mgO cO N h (j + 1) := by
  unfold mgO
  rw [arrV_store]
  congr 1
  funext i
  unfold updV
  by_cases e : i = j
  · rw [if_pos e, if_pos (by omega), e]
  · rw [if_neg e]
    show (if i < j then _ else _) = _
    by_cases e2 : i < j
    · rw [if_pos e2, if_pos (by omega)]
    · rw [if_neg e2, if_neg (by omega)]
theorem mgS_at (T : State) (cO cI : ClassId) (N K : Nat) : ∀ j, (mgS T cO cI N K j).heap.size = T.heap.size + 1 + j ∧ (mgS T cO cI N K j).vm = T.vm ∧ (mgS T cO cI N K j).slotsUsed = T.slotsUsed + N + j * K ∧
    (mgS T cO cI N K j).heap[T.heap.size]? = some (mgO cO N T.heap.size j) ∧ (∀ i, i < j → (mgS T cO cI N K j).heap[T.heap.size + 1 + i]? = some (mgI cI K)) ∧ ∀ q, q < T.heap.size → (mgS T cO cI N K j).heap[q]? = T.heap[q]?
  | 0 => by
    refine ⟨size_pushCell _ _, rfl, ?_, State.heap_pushCell_size _ _, fun i hi => absurd hi (Nat.not_lt_zero i), fun q hq => State.heap_pushCell_of_lt _ _ hq⟩
    show T.slotsUsed + (mgO cO N T.heap.size 0).slots.size = _
    unfold mgO
    rw [arrV_size]
    omega
  | j + 1 => by
    obtain ⟨a1, a2, a3, a4, a5, a6⟩ := mgS_at T cO cI N K j
    have hlt : T.heap.size < (mgS T cO cI N K j).heap.size := by omega
    have b4 : ((mgS T cO cI N K j).pushCell (mgI cI K)).heap[T.heap.size]? = some (mgO cO N T.heap.size j) := by
      rw [State.heap_pushCell_of_lt _ _ hlt]
      exact a4
    refine ⟨?_, a2, ?_, State.heap_setCell_self b4, fun i hi => ?_, fun q hq => ?_⟩
    · show (((mgS T cO cI N K j).pushCell (mgI cI K)).setCell T.heap.size _).heap.size = _
      rw [size_setCell, size_pushCell, a1]
      omega
    · show (mgS T cO cI N K j).slotsUsed + (mgI cI K).slots.size = _
      unfold mgI
      rw [arrV_size, a3, Nat.succ_mul]
      omega
    · show (((mgS T cO cI N K j).pushCell (mgI cI K)).setCell T.heap.size _).heap[_]? = _
      rw [State.heap_setCell_other (show T.heap.size ≠ T.heap.size + 1 + i by omega)]
      by_cases e : i = j
      · rw [e, ← a1]
        exact State.heap_pushCell_size _ _
      · have hi2 : T.heap.size + 1 + i < (mgS T cO cI N K j).heap.size := by omega
        rw [State.heap_pushCell_of_lt _ _ hi2]
        exact a5 i (by omega)
    · show (((mgS T cO cI N K j).pushCell (mgI cI K)).setCell T.heap.size _).heap[_]? = _
      have hq2 : q < (mgS T cO cI N K j).heap.size := by omega
      rw [State.heap_setCell_other (show T.heap.size ≠ q by omega), State.heap_pushCell_of_lt _ _ hq2]
      exact a6 q hq
theorem mgS_top (T : State) (f : JFrame) (cO cI : ClassId) (N K : Nat) : ∀ j, mgS (T.setTop f) cO cI N K j = (mgS T cO cI N K j).setTop f
  | 0 => rfl
  | j + 1 => by
    show ((mgS (T.setTop f) cO cI N K j).pushCell (mgI cI K)).setCell (T.setTop f).heap.size (mgO cO N (T.setTop f).heap.size (j + 1)) = _
    rw [mgS_top T f cO cI N K j]
    rfl
section MANEW
variable {E : CtlPost} {e : Env} {d : Bool} {acts : List Action} {s : State}
theorem mg_alloc {cA comp : ClassId} {k : Class} {ty : FieldType} {n : Nat} {v : Value} {Q : Addr → Pre} (hk : s.vm.classes[cA]? = some k) (hkind : k.kind = .array comp ty) (hv : v.isDefault = true) (hf : fits ty v = true) (hl : ¬ n > e.platform.arrayLengthLimit) (hh : ¬ n * componentBytes ty > e.platform.maxHeapBytes) (h1 : s.heap.size < e.platform.maxCells) (h2 : s.slotsUsed + n ≤ e.platform.maxSlots) (hQ : Q s.heap.size d acts (s.pushCell (arrV cA n (fun _ => v)))) : wp (Jvm.newArray cA n v) Q E e d acts s := by
  rw [← arrV_new] at hQ
  have hfit : ∀ i x, (Array.replicate n v)[i]? = some x → s.fitsSlot cA .none i x = true := fun i x hx => by
    rw [Array.getElem?_replicate] at hx
    split at hx
    · cases hx
      simp [State.fitsSlot, State.slotType?, hk, hkind, hf]
    · cases hx
  have hact : allocActs (Array.replicate n v) s.heap.size acts = acts := by
    unfold allocActs
    rw [if_pos (by rw [Array.all_replicate]; split <;> simp [hv])]
  simp only [Jvm.newArray, Jvm.arrayFits, wp_bind', Jvm.W.ask, Jvm.W.ite, hl, hh, if_false, wp_pure', Jvm.W.theClass, hk, hkind, Jvm.W.alloc, Jvm.W.stop, Option.some.injEq, exists_eq_left', Array.size_replicate, hact]
  rw [if_neg (by omega)]
  exact ⟨h1, h2, hfit, hQ⟩
theorem mg_make {cO cI c0 : ClassId} {kO kI : Class} {N K : Nat} {Q : Addr → Pre} (hkO : s.vm.classes[cO]? = some kO) (hO : kO.kind = .array cI (.array .int)) (hkI : s.vm.classes[cI]? = some kI) (hI : kI.kind = .array c0 .int) (hN : N < 65536) (hK : K < 65536)
    (hl : 65536 ≤ e.platform.arrayLengthLimit) (hh : 524288 ≤ e.platform.maxHeapBytes) (h1 : s.heap.size + 1 + N ≤ e.platform.maxCells) (h2 : s.slotsUsed + N + N * K ≤ e.platform.maxSlots) (hQ : ∀ d' acts', Q s.heap.size d' acts' (mgS s cO cI N K N)) : wp (multianewarray.make cO [nI N, nI K]) Q E e d acts s := by
  have n1 : ¬ nI N < 0 := nI_pos (by omega)
  have n2 : ¬ nI K < 0 := nI_pos (by omega)
  have hfind : ([nI K].find? (· < 0)) = none := by simp [n2]
  rw [multianewarray.make]
  simp only [wp_bind', Jvm.W.ite, n1, if_false, wp_pure', Jvm.W.theClass, hkO, hO, Option.some.injEq, exists_eq_left', nI_clamp (n := N) (by omega)]
  refine mg_alloc hkO hO rfl rfl (by omega) (by show ¬ N * 4 > _; omega) (by omega) (by have := Nat.zero_le (N * K); omega) ?_
  simp only [hfind]
  rw [ite_self, wp_bind', Std.Legacy.Range.forIn_eq_forIn_range']
  rw [show ([:N] : Std.Legacy.Range).size = N by simp [Std.Legacy.Range.size]]
  show wp (forIn (List.range' 0 N 1) PUnit.unit _) _ E e d acts _
  refine wp_forIn_inv (fun rest t => ∃ j, j ≤ N ∧ rest = List.range' j (N - j) ∧ t = mgS s cO cI N K j) _ _ ⟨0, Nat.zero_le _, rfl, ?_⟩ ?_ ?_
  · show _ = s.pushCell (mgO cO N s.heap.size 0)
    congr 1
  · rintro x rest t d' acts' Q' ⟨j, hj, hl2, rfl⟩ hnext
    have hjN : j < N := by
      rcases Nat.lt_or_ge j N with h | h
      · exact h
      · rw [show N - j = 0 by omega] at hl2
        cases hl2
    rw [show N - j = (N - (j + 1)) + 1 by omega, List.range'_succ] at hl2
    obtain ⟨rfl, hr⟩ := List.cons.inj hl2
    obtain ⟨a1, a2, a3, a4, a5, a6⟩ := mgS_at s cO cI N K x
    have hmul : x * K + K ≤ N * K := by
      have := Nat.mul_le_mul_right K (show x + 1 ≤ N from hjN)
      rw [Nat.succ_mul] at this
      exact this
    have hlt : s.heap.size < (mgS s cO cI N K x).heap.size := by omega
    simp only [wp_bind']
    rw [multianewarray.make]
    simp only [wp_bind', Jvm.W.ite, n2, if_false, wp_pure', Jvm.W.theClass, a2, hkI, hI, Option.some.injEq, exists_eq_left', nI_clamp (n := K) (by omega)]
    refine mg_alloc (v := defaultValue .int) (by rw [a2]; exact hkI) hI rfl rfl (by omega) (by show ¬ K * 4 > _; omega) (by omega) (by omega) ?_
    simp only [wp_bind', Jvm.W.writeLoc, wp_pure']
    refine ⟨mgO cO N s.heap.size x, by rw [State.heap_pushCell_of_lt _ _ hlt]; exact a4, fun h => (by cases h), by unfold mgO; rw [arrV_size]; exact hjN, ?_, hnext _ _ _ ⟨x + 1, hjN, hr, ?_⟩⟩
    · show State.fitsSlot _ cO .none x _ = true
      simp [State.fitsSlot, State.slotType?, a2, hkO, hO, fits]
    · rw [a1, mgO_put]
      rfl
  · rintro t d' acts' ⟨j, hj, hl2, rfl⟩
    have hjN : j = N := by
      rcases Nat.lt_or_ge j N with h | h
      · rw [show N - j = (N - (j + 1)) + 1 by omega, List.range'_succ] at hl2
        cases hl2
      · omega
    subst hjN
    simp only [wp_pure']
    exact hQ _ _
end MANEW
section MANEW2
variable {p : Program} {l : Launch} {e : Env} {R : Room} {s : State} {m : MethodId} {args : Array Value} {below : List Frame} {meth : Method} {c : Code} {Q : State → Prop} {H : Heap} {locs : List Loc} {cells slots : Nat} {cc : ByteArray}
theorem mgS_stand {T : State} {cO cI : ClassId} {N K : Nat} (X : Stand p l e R s m args below meth c T locs cells slots) : ∀ j, ∃ L : List Loc, (∀ x ∈ L, x.base = T.heap.size) ∧ Stand p l e R s m args below meth c (mgS T cO cI N K j) (locs ++ L) (cells + 1 + j) (slots + N + j * K)
  | 0 => by
    have := X.pushed (mgO cO N T.heap.size 0)
    unfold mgO at this
    rw [arrV_size] at this
    refine ⟨[], fun x hx => absurd hx List.not_mem_nil, ?_⟩
    rw [List.append_nil, Nat.zero_mul]
    exact this
  | j + 1 => by
    obtain ⟨L, hL, XL⟩ := mgS_stand X j (cO := cO) (cI := cI) (N := N) (K := K)
    obtain ⟨a1, a2, a3, a4, a5, a6⟩ := mgS_at T cO cI N K j
    have X1 := XL.pushed (mgI cI K)
    have b4 : ((mgS T cO cI N K j).pushCell (mgI cI K)).heap[T.heap.size]? = some (mgO cO N T.heap.size j) := by
      have hq2 : T.heap.size < (mgS T cO cI N K j).heap.size := by omega
      rw [State.heap_pushCell_of_lt _ _ hq2]
      exact a4
    have X2 := X1.stored b4 j (.ref (T.heap.size + 1 + j))
    rw [mgO_put] at X2
    refine ⟨L ++ [⟨T.heap.size, j⟩], fun x hx => ?_, ?_⟩
    · rcases List.mem_append.mp hx with h | h
      · exact hL x h
      · rw [List.mem_singleton.mp h]
    · have e1 : (mgI cI K).slots.size = K := by unfold mgI; rw [arrV_size]
      rw [e1, List.append_assoc] at X2
      rw [show cells + 1 + (j + 1) = cells + 1 + j + 1 by omega, show slots + N + (j + 1) * K = slots + N + j * K + K by rw [Nat.succ_mul]; omega]
      exact X2
set_option maxHeartbeats 4000000 in
theorem W.manew (hexec : p.tables.exec = Jvm.exec) (hb : c.code = cc) {own : String} {index : Nat} (hown : s.vm.findClass own = some m.cls) (hclink : (Cond.classLink own index "[[I").before args s = true) {cO cI c0 : ClassId} {kO kI : Class} (hcO : s.vm.findClass "[[I" = some cO) (hkO : s.vm.classes[cO]? = some kO) (hO : kO.kind = .array cI (.array .int)) (hkI : s.vm.classes[cI]? = some kI) (hI : kI.kind = .array c0 .int)
    {g : JFrame} (hg : g.method = m) (hdg : decode cc g.pc = .ok (.multianewarray index 2, 4)) {N K : Nat} {rest : List Value} (hstack : g.stack = .int (nI K) :: .int (nI N) :: rest) (hN : N < 65536) (hK : K < 65536) (hcells : cells + 1 + N ≤ R.cells) (hslots : slots + N + N * K ≤ R.slots)
    (kk : ∀ (H' : Heap) (locs' : List Loc), H'.size = H.size + 1 + N → H'[H.size]? = some (arrV cO N (fun i => if i < N then .ref (H.size + 1 + i) else .null)) → (∀ i, i < N → H'[H.size + 1 + i]? = some (arrV cI K (fun _ => .int 0))) → (∀ q, q < H.size → H'[q]? = H[q]?) → (∀ x ∈ locs', x ∈ locs ∨ x.base = H.size) →
      W p l e R s m args below meth c H' locs' (cells + 1 + N) (slots + N + N * K) Q { g with pc := g.pc + 4, stack := .ref H.size :: rest }) : W p l e R s m args below meth c H locs cells slots Q g := by
  intro T hT X
  subst hT; subst hb; subst hg
  have hpl : e.platform.magicAccessors = ({} : Platform).magicAccessors := by rw [X.admits.platform]
  obtain ⟨cc', hfcc, hcl⟩ := Cond.classLink_spec hown hclink e.platform hpl
  cases hcO.symm.trans hfcc
  obtain ⟨hg₁, hwarm₁, hready₁⟩ := State.classEntry (e := e) X.warmed hcl
  generalize T.vm.noted g.method.cls index (.cls cO) = vm₁ at hg₁ hwarm₁ hready₁
  have hal : s.vm.Alike vm₁ := hwarm₁.alike
  obtain ⟨kO₁, hkO₁, eO⟩ := hal.2.2 _ _ hkO
  obtain ⟨kI₁, hkI₁, eI⟩ := hal.2.2 _ _ hkI
  have hO₁ : kO₁.kind = .array cI (.array .int) := by rw [eO]; exact hO
  have hI₁ : kI₁.kind = .array c0 .int := by rw [eI]; exact hI
  have X₁ := X.noted hwarm₁
  obtain ⟨L, hL, XL⟩ := mgS_stand X₁ N (cO := cO) (cI := cI) (N := N) (K := K)
  obtain ⟨a1, a2, a3, a4, a5, a6⟩ := mgS_at (T.setVm vm₁) cO cI N K N
  obtain ⟨t, h1, h2⟩ := kk (mgS (T.setVm vm₁) cO cI N K N).heap (locs ++ L) a1 a4 a5 a6 (fun x hx => (List.mem_append.mp hx).imp id (hL x)) _ rfl XL
  refine ⟨t, ?_, h2⟩
  obtain ⟨hr1, hr2⟩ := X.heapHas (a := 1 + N) (b := N + N * K) (by omega) (by omega)
  have hlim := Launch.admits_arrayLengthLimit X.admits
  have hheap := Launch.admits_maxHeapBytes X.admits
  have hs := X.here.top
  refine Steps.instr (c := c) (by simpa using X.here) ?_
  simp only [hdg, wpRun, hexec, exec, multianewarray.sem, wp_bind']
  rw [Jvm.W.resolveClassAt_transfer (s := T.setTop g) (State.method?_setTop g hs) hg₁ hready₁, Jvm.W.resolveClassAt_ready (s := (T.setTop g).setVm vm₁) (State.method?_setTop g hs) hready₁, wp_bind', Jvm.W.popN, if_neg (by decide)]
  refine ⟨g, State.topJava?_setTop' g hs, [.int (nI N), .int (nI K)], rest, rfl, hstack, ?_⟩
  simp only [List.mapM_cons, List.mapM_nil, wp_bind', wp_pure']
  rw [State.setVm_setTop, State.setTop_setTop]
  refine mg_make (e := e) (s := (T.setVm vm₁).setTop { g with stack := rest }) hkO₁ hO₁ hkI₁ hI₁ hN hK (by omega) (by omega) (by show T.heap.size + 1 + N ≤ _; omega) (by show T.slotsUsed + N + N * K ≤ _; omega) (fun d' acts' => ?_)
  rw [mgS_top]
  simp only [wp_bind', Jvm.W.mark, Jvm.W.pushRef]
  refine ⟨{ g with stack := rest }, ?_, fun acts => ?_⟩
  · exact State.topJava?_setTop' _ (by have := XL.here.top; exact this)
  · rw [State.setTop_setTop, afterInstr_ok]
    exact h1
end MANEW2
