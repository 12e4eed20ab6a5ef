/-! ===== WHAT THE STATEMENT GIVES OF THE START ===== -/
def gvC : List Cond := flatC (Jvm.Cond.and given_1 narrow_1)
theorem seg_mem {α : Type} {L S : List α} {i n : Nat} (h : (L.drop i).take n = S) : ∀ w ∈ S, w ∈ L := fun w hw => by
  rw [← h] at hw
  exact List.mem_of_mem_drop (List.mem_of_mem_take hw)
/-- what is said of a String constant -/
def sCs (own : String) (k : Nat) (l : List Int32) : List Cond := [.exactly (.string own k) "java/lang/String", .eq (.field (.string own k) "java/lang/String" "coder" "B") (.int 0), .arrayOf (.field (.string own k) "java/lang/String" "value" "[B") .byte, .eq (.length (.field (.string own k) "java/lang/String" "value" "[B")) (.int (Int32.ofNat l.length))] ++ (List.range l.length).map (fun j => .eq (.elem (.field (.string own k) "java/lang/String" "value" "[B") (.int (Int32.ofNat j))) (.int (l.getD j 0)))
theorem s_one {own : String} {k : Nat} {l : List Int32} {args : Array Value} {s : State} {A : Nat → Prop} (hl : l.length < 2 ^ 31) (h : ∀ w ∈ sCs own k l, w.before args s = true) (hA : ∀ a : Nat, a < s.heap.size → ¬ A a) :
    ∃ q : Nat × Nat, (Term.string own k).eval args s none [] s = some (.ref q.1) ∧ va_O "java/lang/String" q.1 A s s.heap ∧ va_OF "java/lang/String" "coder" "B" (.int 0) q.1 A s s.heap ∧ va_OF "java/lang/String" "value" "[B" (.ref q.2) q.1 A s s.heap ∧ va_T .byte q.2 l.length (fun j => .int (l.getD j 0)) A s s.heap := by
  have hz : ∀ i : Nat, i < 1 → i = 0 := fun i hi => by omega
  obtain ⟨adK, adV, hS, hev⟩ := vk_Sof (args := args) (s := s) (N := 1) (tm := fun _ => .string own k) (len := [l.length]) (byt := [l]) (A := A)
    (fun i hi => by rw [hz i hi]; exact hl)
    (fun i _ => h _ (List.mem_append_left _ (List.mem_of_getElem? (i := 0) rfl)))
    (fun i _ => h _ (List.mem_append_left _ (List.mem_of_getElem? (i := 1) rfl)))
    (fun i _ => h _ (List.mem_append_left _ (List.mem_of_getElem? (i := 2) rfl)))
    (fun i hi => by rw [hz i hi]; exact h _ (List.mem_append_left _ (List.mem_of_getElem? (i := 3) rfl)))
    (fun i hi j hj => by
      rw [hz i hi] at hj ⊢
      exact h _ (List.mem_append_right _ (List.mem_map.mpr ⟨j, List.mem_range.mpr hj, rfl⟩)))
    (fun i j hi hj e => absurd ((hz i hi).trans (hz j hj).symm) e) hA
  obtain ⟨h1, h2, h3, h4⟩ := hS.1 0 (by omega)
  exact ⟨(adK 0, adV 0), hev 0 (by omega), h1, h2, h3, h4⟩
/-- the texts: class, place in its file, where it begins in gvC -/
def sPl : List (String × Nat × Nat) := [("TrickHouse", 326, 215), ("TrickHouse", 328, 223), ("TrickHouse", 330, 230), ("TrickHouse", 332, 238), ("TrickHouse", 334, 248), ("TrickHouse", 336, 260), ("TrickHouse", 337, 268), ("TrickHouse", 339, 277), ("TrickHouse", 341, 285), ("TrickHouse", 343, 293), ("TrickHouseModel", 267, 297), ("TrickHouseModel", 269, 302), ("TrickHouseModel", 271, 307), ("TrickHouseModel", 273, 312), ("TrickHouseModel", 275, 317), ("TrickHouseModel", 326, 409), ("TrickHouseModel", 335, 418)]
theorem sPl_ok : ((List.range 17).all fun n => decide ((gvC.drop (sPl.getD n ("", 0, 0)).2.2).take (4 + (mRoB.getD n []).length) = sCs (sPl.getD n ("", 0, 0)).1 (sPl.getD n ("", 0, 0)).2.1 (mRoB.getD n []))) = true := by decide +kernel
theorem mRoB_len : ((List.range 17).all fun n => decide ((mRoB.getD n []).length < 2 ^ 31)) = true := by decide +kernel
theorem s_all {args : Array Value} {s : State} {A : Nat → Prop} (hg : (Jvm.Cond.and given_1 narrow_1).before args s = true) (hA : ∀ a : Nat, a < s.heap.size → ¬ A a) :
    ∃ f : Nat → Nat × Nat, ∀ n : Nat, n < 17 → (Term.string (sPl.getD n ("", 0, 0)).1 (sPl.getD n ("", 0, 0)).2.1).eval args s none [] s = some (.ref (f n).1) ∧ va_O "java/lang/String" (f n).1 A s s.heap ∧ va_OF "java/lang/String" "coder" "B" (.int 0) (f n).1 A s s.heap ∧ va_OF "java/lang/String" "value" "[B" (.ref (f n).2) (f n).1 A s s.heap ∧ va_T .byte (f n).2 (mRoB.getD n []).length (fun j => .int ((mRoB.getD n []).getD j 0)) A s s.heap := by
  have h0 : ∀ n : Nat, ∃ q : Nat × Nat, n < 17 → (Term.string (sPl.getD n ("", 0, 0)).1 (sPl.getD n ("", 0, 0)).2.1).eval args s none [] s = some (.ref q.1) ∧ va_O "java/lang/String" q.1 A s s.heap ∧ va_OF "java/lang/String" "coder" "B" (.int 0) q.1 A s s.heap ∧ va_OF "java/lang/String" "value" "[B" (.ref q.2) q.1 A s s.heap ∧ va_T .byte q.2 (mRoB.getD n []).length (fun j => .int ((mRoB.getD n []).getD j 0)) A s s.heap := fun n => by
    by_cases hn : n < 17
    · have h1 := of_decide_eq_true (List.all_eq_true.mp sPl_ok n (List.mem_range.mpr hn))
      have h2 := of_decide_eq_true (List.all_eq_true.mp mRoB_len n (List.mem_range.mpr hn))
      obtain ⟨q, hq⟩ := s_one h2 (fun w hw => flat_of_before _ hg w (seg_mem h1 w hw)) hA
      exact ⟨q, fun _ => hq⟩
    · exact ⟨(0, 0), fun h => absurd h hn⟩
  exact ⟨fun n => (h0 n).choose, fun n hn => (h0 n).choose_spec hn⟩
/-- what is said of a table of bytes -/
def tCs (C n : String) (l : List Int32) : List Cond := [.arrayOf (.static C n "[B") .byte, .eq (.length (.static C n "[B")) (.int (Int32.ofNat l.length))] ++ (List.range l.length).map (fun j => .eq (.elem (.static C n "[B") (.int (Int32.ofNat j))) (.int (l.getD j 0)))
theorem t_one {C n : String} {l : List Int32} {args : Array Value} {s : State} {A : Nat → Prop} (hl : l.length < 2 ^ 31) (h : ∀ w ∈ tCs C n l, w.before args s = true) (hlay : (Cond.laysStatic C n "[B").before args s = true) (hini : (Cond.initialized C).before args s = true) (hA : ∀ a : Nat, a < s.heap.size → ¬ A a) :
    ∃ t : Nat, va_Z C n "[B" (.ref t) A s s.heap ∧ va_T .byte t l.length (fun j => .int (l.getD j 0)) A s s.heap := by
  obtain ⟨t, ht, hT⟩ := va_Tof (f := fun j => .int (l.getD j 0)) (A := A) hl (h _ (List.mem_append_left _ (List.mem_of_getElem? (i := 0) rfl))) (va_eqt (h _ (List.mem_append_left _ (List.mem_of_getElem? (i := 1) rfl)))) (fun j hj => va_eqt (h _ (List.mem_append_right _ (List.mem_map.mpr ⟨j, List.mem_range.mpr hj, rfl⟩)))) hA
  exact ⟨t, va_Zref hlay hini ht hA, hT⟩
theorem tO_ok : (gvC.drop 10).take (2 + mDigO.length) = tCs "java/lang/Integer" "DigitOnes" mDigO := by decide +kernel
theorem tT_ok : (gvC.drop 113).take (2 + mDigT.length) = tCs "java/lang/Integer" "DigitTens" mDigT := by decide +kernel
/-- one object under two names -/
theorem s_same {t t' : Term} {a : Nat} {args : Array Value} {s : State} (h : (Cond.eq t t').before args s = true) (ht : t.eval args s none [] s = some (.ref a)) : t'.eval args s none [] s = some (.ref a) := by
  cases hv : t'.eval args s none [] s with
  | none => simp [Cond.before, Cond.holds, Cond.value, ht, hv] at h
  | some w =>
    simp only [Cond.before, Cond.holds, Cond.value, ht, hv] at h
    cases w <;> simp_all
/-- a private method, by whatever class's object it is called -/
theorem sel_priv {C : String} {y : MethodName} {s : State} {args : Array Value} {n : Nat} (hy : y.cls ≠ "java/lang/invoke/MethodHandle" ∧ y.cls ≠ "java/lang/invoke/VarHandle") (hC : (Cond.instantiable C n).before args s = true) (hpriv : (Cond.privateMethod y).before args s = true) (hinst : (Cond.instanceMethod y).before args s = true) (hsame : (Cond.sameMethod y.cls y.cls y.name y.desc).before args s = true) : (Cond.selects C y y).before args s = true := by
  obtain ⟨c, k, hc, hk, -⟩ := Cond.instantiable_spec hC
  obtain ⟨c1, k1, hc1, hk1, hni⟩ := Cond.sameMethod_class hsame
  obtain ⟨mk, methM, hnamed, hmethM, -, -⟩ := Cond.instanceMethod_spec hinst
  have hfound : s.methodFound? y.cls y.name y.desc = some mk := State.methodFound?_of_named hnamed hy
  have hcls : mk.cls = c1 := Option.some.inj ((findClass_of_methodNamed hnamed).symm.trans hc1)
  have hsel : selectMethod {} s.vm c mk = .method mk := selectMethod_private hmethM (Cond.privateMethod_at hpriv mk methM hnamed hmethM)
  simp only [Cond.before, Cond.holds, Cond.value, hc, hfound, hnamed, hsel, hcls, hk1]
  simp; exact hni
theorem x_words {args : Array Value} {s : State} (hts : ∀ w ∈ lw_tbl, w.before args s = true) : ∀ w ∈ xGW, w.before args s = true := fun w hw => by
  rcases List.mem_append.mp hw with hw | hw
  · exact hts w (mGW_good w hw).1
  · rcases List.mem_cons.mp hw with rfl | hw
    · exact sel_priv (n := 4) ⟨by decide, by decide⟩ (hts _ (mInN 279 (by decide +kernel))) (hts _ (mInN 693 (by decide +kernel))) (hts _ (mInN 694 (by decide +kernel))) (hts _ (mInN 1519 (by decide +kernel)))
    · rcases List.mem_cons.mp hw with rfl | hw
      · exact sel_priv (n := 4) ⟨by decide, by decide⟩ (hts _ (mInN 279 (by decide +kernel))) (hts _ (mInN 768 (by decide +kernel))) (hts _ (mInN 769 (by decide +kernel))) (hts _ (mInN 1523 (by decide +kernel)))
      · rcases List.mem_cons.mp hw with rfl | hw
        · exact sel_priv (n := 4) ⟨by decide, by decide⟩ (hts _ (mInN 279 (by decide +kernel))) (hts _ (mInN 772 (by decide +kernel))) (hts _ (mInN 773 (by decide +kernel))) (hts _ (mInN 1524 (by decide +kernel)))
        · exact absurd hw List.not_mem_nil
theorem k_known {args : Array Value} {s : State} (hts : ∀ w ∈ lw_tbl, w.before args s = true) : ∃ D : va_G, ∀ (c : Nat) (q : vw_C), vwCl[c]? = some q → u_Kn s q.1 q.2.1 q.2.2 (D.1 c) (D.2 c) := by
  have hm : ∀ w ∈ mGW, w.before args s = true := fun w h => hts w (mGW_good w h).1
  have h0 : ∀ c : Nat, ∃ D : ClassId × (Nat → Nat), ∀ q : vw_C, vwCl[c]? = some q → u_Kn s q.1 q.2.1 q.2.2 D.1 D.2 := fun c => by
    match c with
    | 0 =>
      obtain ⟨c1, c2, h⟩ := u_known (n := 4) hm wu_RJ0 (hts _ (mInN 1373 (by decide +kernel)))
      exact ⟨(c1, c2), fun q hq => by cases hq; exact h⟩
    | 1 =>
      obtain ⟨c1, c2, h⟩ := u_known (n := 4) hm wu_RJ4 (hts _ (mInN 279 (by decide +kernel)))
      exact ⟨(c1, c2), fun q hq => by cases hq; exact h⟩
    | 2 =>
      obtain ⟨c1, c2, h⟩ := u_known (n := 5) hm wu_RX0 (hts _ (mInN 64 (by decide +kernel)))
      exact ⟨(c1, c2), fun q hq => by cases hq; exact h⟩
    | 3 =>
      obtain ⟨c1, c2, h⟩ := u_known (n := 8) hm wu_RX1 (hts _ (mInN 97 (by decide +kernel)))
      exact ⟨(c1, c2), fun q hq => by cases hq; exact h⟩
    | 4 =>
      obtain ⟨c1, c2, h⟩ := u_known (n := 12) hm wu_RX2 (hts _ (mInN 142 (by decide +kernel)))
      exact ⟨(c1, c2), fun q hq => by cases hq; exact h⟩
    | 5 =>
      obtain ⟨c1, c2, h⟩ := u_known (n := 6) hm wu_RX3 (hts _ (mInN 195 (by decide +kernel)))
      exact ⟨(c1, c2), fun q hq => by cases hq; exact h⟩
    | 6 =>
      obtain ⟨c1, c2, h⟩ := u_known (n := 3) hm wu_RX4 (hts _ (mInN 311 (by decide +kernel)))
      exact ⟨(c1, c2), fun q hq => by cases hq; exact h⟩
    | 7 =>
      obtain ⟨c1, c2, h⟩ := u_known (n := 7) hm wu_RX5 (hts _ (mInN 91 (by decide +kernel)))
      exact ⟨(c1, c2), fun q hq => by cases hq; exact h⟩
    | 8 =>
      obtain ⟨c1, c2, h⟩ := u_known (n := 7) hm wu_RX6 (hts _ (mInN 30 (by decide +kernel)))
      exact ⟨(c1, c2), fun q hq => by cases hq; exact h⟩
    | 9 =>
      obtain ⟨c1, c2, h⟩ := u_known (n := 8) hm wu_RX7 (hts _ (mInN 22 (by decide +kernel)))
      exact ⟨(c1, c2), fun q hq => by cases hq; exact h⟩
    | 10 =>
      obtain ⟨c1, c2, h⟩ := u_known (n := 47) hm wu_RX8 (hts _ (mInN 1019 (by decide +kernel)))
      exact ⟨(c1, c2), fun q hq => by cases hq; exact h⟩
    | c + 11 => exact ⟨(0, fun _ => 0), fun q hq => by cases hq⟩
  exact ⟨(fun c => (h0 c).choose.1, fun c => (h0 c).choose.2), fun c q hq => (h0 c).choose_spec q hq⟩
theorem ao_spec {args : Array Value} {s : State} {t : FieldType} (h : (Cond.arrayOver (.array t)).before args s = true) : ∃ (comp c : ClassId) (k : Class), s.vm.findClass (FieldType.array t).toString = some comp ∧ s.vm.classes[c]? = some k ∧ k.kind = .array comp (.array t) ∧ s.vm.findClass ("[" ++ (FieldType.array t).toString) = some c := by
  simp only [Cond.before, Cond.holds, Cond.value, beq_iff_eq] at h
  cases hc : s.vm.findClass (FieldType.array t).toString with
  | none => simp [hc] at h
  | some comp =>
    simp only [hc, Option.bind_some, Option.bind_eq_some_iff, Option.map_eq_some_iff] at h
    obtain ⟨c, hi, k, hk, hb⟩ := h
    obtain ⟨hlt, hp, -⟩ := Array.findIdx?_eq_some_iff_getElem.mp hi
    have e : s.vm.classes[c] = k := (Array.getElem?_eq_some_iff.mp hk).2
    rw [e] at hp
    cases hkind : k.kind with
    | array component ty =>
      rw [hkind] at hb hp
      simp at hb hp
      exact ⟨comp, c, k, rfl, hk, by rw [hkind, hp, hb.1], hb.2⟩
    | _ => rw [hkind] at hb; simp at hb
theorem k_arrays {args : Array Value} {s : State} (hts : ∀ w ∈ lw_tbl, w.before args s = true) : ∃ cy : Nat → ClassId, (∀ (k : Nat) (q : ClassId × FieldType), (mTys cy)[k]? = some q → ArrOfT s q.1 q.2 ∧ va_RA s q.1 q.2) ∧ va_AO RX4 s ∧ ∃ kA : Class, s.vm.classes[cy 1]? = some kA ∧ kA.kind = .array (cy 0) (.array .int) := by
  obtain ⟨c0, k0, m0, a0, b0, e0⟩ := Cond.arrayClass_spec (type := .int) (hts _ (mInN 62 (by decide +kernel)))
  obtain ⟨c3, k3, m3, a3, b3, e3⟩ := Cond.arrayClass_spec (type := .byte) (hts _ (mInN 310 (by decide +kernel)))
  have hO := hts (Cond.arrayOver (.object "TrickHouse$Sheet")) (mInN 277 (by decide +kernel))
  obtain ⟨m2, c2, k2, a2, -, b2, e2, f2⟩ := Cond.arrayOver_spec hO
  obtain ⟨m1, c1, k1, a1, b1, e1, f1⟩ := ao_spec (hts (Cond.arrayOver (.array .int)) (mInN 1025 (by decide +kernel)))
  rw [show (FieldType.array .int).toString = "[" ++ FieldType.int.toString by decide +kernel] at a1
  obtain rfl : m1 = c0 := Option.some.inj (a1.symm.trans a0)
  refine ⟨fun k => if k = 0 then m1 else if k = 1 then c1 else if k = 2 then c2 else c3, fun k q hk => ?_, va_AO.of hO, k1, b1, e1⟩
  match k, hk with
  | 0, hk => have hk : some (m1, FieldType.int) = some q := hk; cases hk; exact ⟨fun n z => ⟨(fun k h => by cases h), k0, b0, m0, e0⟩, a0⟩
  | 1, hk => have hk : some (c1, FieldType.array .int) = some q := hk; cases hk; exact ⟨fun n z => ⟨(fun k h => by cases h), k1, b1, m1, e1⟩, f1⟩
  | 2, hk => have hk : some (c2, FieldType.object RX4) = some q := hk; cases hk; exact ⟨fun n z => ⟨(fun k h => by cases h), k2, b2, m2, e2⟩, k2, m2, b2, e2, a2, f2⟩
  | 3, hk => have hk : some (c3, FieldType.byte) = some q := hk; cases hk; exact ⟨fun n z => ⟨(fun k h => by cases h), k3, b3, m3, e3⟩, a3⟩
  | k + 4, hk => exact absurd (show (none : Option (ClassId × FieldType)) = some q from hk) (by simp)
set_option maxHeartbeats 4000000 in
theorem st_env {b : Nat} {s : State} (hts : ∀ w ∈ lw_tbl, w.before #[Value.ref b] s = true) (hg : (Jvm.Cond.and given_1 narrow_1).before #[Value.ref b] s = true) : ∃ g : mG, g.2.2.2.2 = [] ∧ iE g (fun q => s.heap.size ≤ q) s s.heap := by
  have hA : ∀ a : Nat, a < s.heap.size → ¬ (fun q : Nat => s.heap.size ≤ q) a := fun a h => Nat.not_le.mpr h
  obtain ⟨f, hf⟩ := s_all hg hA
  obtain ⟨D, hD⟩ := k_known hts
  obtain ⟨cy, hcy, hAO, hOO⟩ := k_arrays hts
  obtain ⟨tO, zO, hO⟩ := t_one (C := "java/lang/Integer") (n := "DigitOnes") (l := mDigO) (args := #[Value.ref b]) (s := s) (by decide +kernel) (fun w hw => flat_of_before _ hg w (seg_mem tO_ok w hw)) (hts _ (mInN 829 (by decide +kernel))) (hts _ (mInN 18 (by decide +kernel))) hA
  obtain ⟨tT, zT_, hT⟩ := t_one (C := "java/lang/Integer") (n := "DigitTens") (l := mDigT) (args := #[Value.ref b]) (s := s) (by decide +kernel) (fun w hw => flat_of_before _ hg w (seg_mem tT_ok w hw)) (hts _ (mInN 831 (by decide +kernel))) (hts _ (mInN 18 (by decide +kernel))) hA
  have zC := va_Zof (hts (Cond.laysStatic "java/lang/String" "COMPACT_STRINGS" "Z") (mInN 288 (by decide +kernel))) (hts _ (mInN 10 (by decide +kernel))) (va_eqi (z := 1) (flat_of_before _ hg _ (show _ ∈ gvC from List.mem_of_getElem? (i := 4) (by decide +kernel)))) hA
  have zF := va_Zqof (hts (Cond.laysStatic "jdk/internal/util/Preconditions" "SIOOBE_FORMATTER" "Ljava/util/function/BiFunction;") (mInN 436 (by decide +kernel))) (hts _ (mInN 15 (by decide +kernel))) (flat_of_before _ hg _ (show _ ∈ gvC from List.mem_of_getElem? (i := 5) (by decide +kernel))) hA
  obtain ⟨o, w, hw⟩ : ∃ (o : Option Nat) (w : Nat), va_Z "jdk/internal/util/Preconditions" "SIOOBE_FORMATTER" "Ljava/util/function/BiFunction;" (va_rf (o.map fun _ => w)) (fun q : Nat => s.heap.size ≤ q) s s.heap ∧ ∀ i, o = some i → i = 998 := by
    rcases zF with h | ⟨t, h⟩
    · exact ⟨none, 0, h, fun i hi => by cases hi⟩
    · exact ⟨some 998, t, h, fun i hi => by cases hi; rfl⟩
  obtain ⟨ad, had⟩ : ∃ ad : Nat → Nat, ad = fun k => if 1000 ≤ k ∧ k < 1017 then (f (k - 1000)).1 else if 1100 ≤ k ∧ k < 1117 then (f (k - 1100)).2 else if k = 1200 then tT else if k = 1201 then tO else w := ⟨_, rfl⟩
  have e1 : ∀ n, n < 17 → ad (1000 + n) = (f n).1 := fun n hn => by
    rw [had]
    show (if 1000 ≤ 1000 + n ∧ 1000 + n < 1017 then _ else _) = _
    rw [if_pos ⟨by omega, by omega⟩, Nat.add_sub_cancel_left]
  have e2 : ∀ n, n < 17 → ad (1100 + n) = (f n).2 := fun n hn => by
    rw [had]
    show (if 1000 ≤ 1100 + n ∧ 1100 + n < 1017 then _ else if 1100 ≤ 1100 + n ∧ 1100 + n < 1117 then _ else _) = _
    rw [if_neg (by omega), if_pos ⟨by omega, by omega⟩, Nat.add_sub_cancel_left]
  have e3 : ad 1200 = tT := by rw [had]; rfl
  have e4 : ad 1201 = tO := by rw [had]; rfl
  have e5 : ad 998 = w := by rw [had]; rfl
  refine ⟨(ad, D, cy, o, []), rfl, ⟨⟨hD, hcy⟩, fun w hw hn => va_Nw.of (by cases w <;> first | rfl | (simp [mNest] at hn; done)) (hts w hw), ?_, ⟨fun i hi => ?_, ?_, ?_⟩, zC, ?_, ?_, ?_⟩, hAO, hOO⟩
  · have hR : ∀ (own : String) (k : Nat) (tx : String) (n : Nat), n < 17 → (Cond.stringRef own k tx).before #[Value.ref b] s = true ∧ (Term.string own k).eval #[Value.ref b] s none [] s = some (.ref (f n).1) → vk_R own k tx (ad (1000 + n)) s := fun own k tx n hn h => by
      rw [e1 n hn]
      exact vk_R.of h.1 h.2
    show ∀ q ∈ _, _
    intro q hq
    rcases List.mem_cons.mp hq with rfl | hq
    · exact hR _ _ _ 0 (by omega) ⟨hts _ (mInN 398 (by decide +kernel)), (hf 0 (by omega)).1⟩
    rcases List.mem_cons.mp hq with rfl | hq
    · exact hR _ _ _ 1 (by omega) ⟨hts _ (mInN 399 (by decide +kernel)), (hf 1 (by omega)).1⟩
    rcases List.mem_cons.mp hq with rfl | hq
    · exact hR _ _ _ 2 (by omega) ⟨hts _ (mInN 400 (by decide +kernel)), (hf 2 (by omega)).1⟩
    rcases List.mem_cons.mp hq with rfl | hq
    · exact hR _ _ _ 3 (by omega) ⟨hts _ (mInN 401 (by decide +kernel)), (hf 3 (by omega)).1⟩
    rcases List.mem_cons.mp hq with rfl | hq
    · exact hR _ _ _ 4 (by omega) ⟨hts _ (mInN 402 (by decide +kernel)), (hf 4 (by omega)).1⟩
    rcases List.mem_cons.mp hq with rfl | hq
    · exact hR _ _ _ 5 (by omega) ⟨hts _ (mInN 403 (by decide +kernel)), (hf 5 (by omega)).1⟩
    rcases List.mem_cons.mp hq with rfl | hq
    · exact hR _ _ _ 6 (by omega) ⟨hts _ (mInN 404 (by decide +kernel)), (hf 6 (by omega)).1⟩
    rcases List.mem_cons.mp hq with rfl | hq
    · exact hR _ _ _ 7 (by omega) ⟨hts _ (mInN 405 (by decide +kernel)), (hf 7 (by omega)).1⟩
    rcases List.mem_cons.mp hq with rfl | hq
    · exact hR _ _ _ 8 (by omega) ⟨hts _ (mInN 406 (by decide +kernel)), (hf 8 (by omega)).1⟩
    rcases List.mem_cons.mp hq with rfl | hq
    · exact hR _ _ _ 9 (by omega) ⟨hts _ (mInN 407 (by decide +kernel)), (hf 9 (by omega)).1⟩
    rcases List.mem_cons.mp hq with rfl | hq
    · exact hR _ _ _ 10 (by omega) ⟨hts _ (mInN 1270 (by decide +kernel)), (hf 10 (by omega)).1⟩
    rcases List.mem_cons.mp hq with rfl | hq
    · exact hR _ _ _ 11 (by omega) ⟨hts _ (mInN 1277 (by decide +kernel)), (hf 11 (by omega)).1⟩
    rcases List.mem_cons.mp hq with rfl | hq
    · exact hR _ _ _ 12 (by omega) ⟨hts _ (mInN 1278 (by decide +kernel)), (hf 12 (by omega)).1⟩
    rcases List.mem_cons.mp hq with rfl | hq
    · exact hR _ _ _ 13 (by omega) ⟨hts _ (mInN 1279 (by decide +kernel)), (hf 13 (by omega)).1⟩
    rcases List.mem_cons.mp hq with rfl | hq
    · exact hR _ _ _ 14 (by omega) ⟨hts _ (mInN 1280 (by decide +kernel)), (hf 14 (by omega)).1⟩
    rcases List.mem_cons.mp hq with rfl | hq
    · exact hR _ _ _ 0 (by omega) ⟨hts _ (mInN 1288 (by decide +kernel)), s_same (flat_of_before _ hg _ (show _ ∈ gvC from List.mem_of_getElem? (i := 330) (by decide +kernel))) (hf 0 (by omega)).1⟩
    rcases List.mem_cons.mp hq with rfl | hq
    · exact hR _ _ _ 1 (by omega) ⟨hts _ (mInN 1289 (by decide +kernel)), s_same (flat_of_before _ hg _ (show _ ∈ gvC from List.mem_of_getElem? (i := 338) (by decide +kernel))) (hf 1 (by omega)).1⟩
    rcases List.mem_cons.mp hq with rfl | hq
    · exact hR _ _ _ 2 (by omega) ⟨hts _ (mInN 1290 (by decide +kernel)), s_same (flat_of_before _ hg _ (show _ ∈ gvC from List.mem_of_getElem? (i := 347) (by decide +kernel))) (hf 2 (by omega)).1⟩
    rcases List.mem_cons.mp hq with rfl | hq
    · exact hR _ _ _ 3 (by omega) ⟨hts _ (mInN 1291 (by decide +kernel)), s_same (flat_of_before _ hg _ (show _ ∈ gvC from List.mem_of_getElem? (i := 358) (by decide +kernel))) (hf 3 (by omega)).1⟩
    rcases List.mem_cons.mp hq with rfl | hq
    · exact hR _ _ _ 4 (by omega) ⟨hts _ (mInN 1292 (by decide +kernel)), s_same (flat_of_before _ hg _ (show _ ∈ gvC from List.mem_of_getElem? (i := 371) (by decide +kernel))) (hf 4 (by omega)).1⟩
    rcases List.mem_cons.mp hq with rfl | hq
    · exact hR _ _ _ 5 (by omega) ⟨hts _ (mInN 1293 (by decide +kernel)), s_same (flat_of_before _ hg _ (show _ ∈ gvC from List.mem_of_getElem? (i := 380) (by decide +kernel))) (hf 5 (by omega)).1⟩
    rcases List.mem_cons.mp hq with rfl | hq
    · exact hR _ _ _ 6 (by omega) ⟨hts _ (mInN 1294 (by decide +kernel)), s_same (flat_of_before _ hg _ (show _ ∈ gvC from List.mem_of_getElem? (i := 390) (by decide +kernel))) (hf 6 (by omega)).1⟩
    rcases List.mem_cons.mp hq with rfl | hq
    · exact hR _ _ _ 7 (by omega) ⟨hts _ (mInN 1295 (by decide +kernel)), s_same (flat_of_before _ hg _ (show _ ∈ gvC from List.mem_of_getElem? (i := 399) (by decide +kernel))) (hf 7 (by omega)).1⟩
    rcases List.mem_cons.mp hq with rfl | hq
    · exact hR _ _ _ 8 (by omega) ⟨hts _ (mInN 1296 (by decide +kernel)), s_same (flat_of_before _ hg _ (show _ ∈ gvC from List.mem_of_getElem? (i := 408) (by decide +kernel))) (hf 8 (by omega)).1⟩
    rcases List.mem_cons.mp hq with rfl | hq
    · exact hR _ _ _ 15 (by omega) ⟨hts _ (mInN 1362 (by decide +kernel)), (hf 15 (by omega)).1⟩
    rcases List.mem_cons.mp hq with rfl | hq
    · exact hR _ _ _ 16 (by omega) ⟨hts _ (mInN 1366 (by decide +kernel)), (hf 16 (by omega)).1⟩
    exact absurd hq List.not_mem_nil
  · obtain ⟨-, h1, h2, h3, h4⟩ := hf i hi
    show va_O _ (ad (1000 + i)) _ _ _ ∧ va_OF _ _ _ _ (ad (1000 + i)) _ _ _ ∧ va_OF _ _ _ (.ref (ad (1100 + i))) (ad (1000 + i)) _ _ _ ∧ va_T _ (ad (1100 + i)) _ _ _ _ _
    rw [e1 i hi, e2 i hi]
    exact ⟨h1, h2, h3, h4⟩
  · show va_T _ (ad 1200) _ _ _ _ _
    rw [e3]
    exact hT
  · show va_T _ (ad 1201) _ _ _ _ _
    rw [e4]
    exact hO
  · show va_Z _ _ _ (.ref (ad 1200)) _ _ _
    rw [e3]
    exact zT_
  · show va_Z _ _ _ (.ref (ad 1201)) _ _ _
    rw [e4]
    exact zO
  · show va_Z _ _ _ (va_rf (o.map ad)) _ _ _
    have e6 : o.map ad = o.map fun _ => w := by
      cases ho : o with
      | none => rfl
      | some i =>
        show some (ad i) = some w
        rw [hw.2 i ho, e5]
    rw [e6]
    exact hw.1
