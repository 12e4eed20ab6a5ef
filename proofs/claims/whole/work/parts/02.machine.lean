/-! ===== THE SMALL MACHINE: values, cells by number, and what an instruction asks (weakest preconditions) ===== -/
abbrev mV : Type := Int32 ⊕ Option Nat
abbrev mM : Type := Nat → Nat → Int32
abbrev mL : Type := List (Option mV)
abbrev mS : Type := Nat × mL × List mV × mM
/-- shape of a cell: kind (0 int[], 1 int[][], 2 Sheet[], 3 byte[], 5 + c an object of class c of vwCl), length, references -/
abbrev mH : Type := Nat × Nat × List (Option Nat)
abbrev mP : Type := Option mV → mM → Prop
abbrev mT : Type := List mV → mM → mP → Prop
/-- an instruction: as decoded, its length, a number (local, target), a constant, a switch's targets -/
abbrev mI : Type := Instr × Nat × Nat × Int32 × List (Int32 × Nat)
/-- a method: code, fields by pool index (class, field, 0 int | 1 boolean | 3 byte | 2 no put), calls by 3 * index + kind (how many are popped, what it asks), constants, statics, return type -/
abbrev mF : Type := (Nat → Option mI) × (Nat → Option (Nat × Nat × Nat)) × (Nat → Option (Nat × mT)) × (Nat → Option mV) × (Nat → Option mV) × Option FieldType
/-! constants that are read and never written: Strings at 1000 .. 1016, their bytes at 1100 .. 1116, Integer's digits at 1200, 1201 -/
def mRoB : List (List Int32) := [[100, 101, 97, 108], [98, 105, 100], [112, 97, 115, 115], [100, 111, 117, 98, 108, 101], [114, 101, 100, 111, 117, 98, 108, 101], [112, 108, 97, 121], [99, 108, 97, 105, 109], [114, 97, 110, 107], [114, 117, 108, 101], [], [99], [100], [104], [115], [110], [99, 100, 104, 115, 110], [32]]
def mDigT : List Int32 := [48, 48, 48, 48, 48, 48, 48, 48, 48, 48, 49, 49, 49, 49, 49, 49, 49, 49, 49, 49, 50, 50, 50, 50, 50, 50, 50, 50, 50, 50, 51, 51, 51, 51, 51, 51, 51, 51, 51, 51, 52, 52, 52, 52, 52, 52, 52, 52, 52, 52, 53, 53, 53, 53, 53, 53, 53, 53, 53, 53, 54, 54, 54, 54, 54, 54, 54, 54, 54, 54, 55, 55, 55, 55, 55, 55, 55, 55, 55, 55, 56, 56, 56, 56, 56, 56, 56, 56, 56, 56, 57, 57, 57, 57, 57, 57, 57, 57, 57, 57]
def mDigO : List Int32 := [48, 49, 50, 51, 52, 53, 54, 55, 56, 57, 48, 49, 50, 51, 52, 53, 54, 55, 56, 57, 48, 49, 50, 51, 52, 53, 54, 55, 56, 57, 48, 49, 50, 51, 52, 53, 54, 55, 56, 57, 48, 49, 50, 51, 52, 53, 54, 55, 56, 57, 48, 49, 50, 51, 52, 53, 54, 55, 56, 57, 48, 49, 50, 51, 52, 53, 54, 55, 56, 57, 48, 49, 50, 51, 52, 53, 54, 55, 56, 57, 48, 49, 50, 51, 52, 53, 54, 55, 56, 57, 48, 49, 50, 51, 52, 53, 54, 55, 56, 57]
def mRoS (a : Nat) : Bool := Nat.ble 1000 a && Nat.blt a 1017
def mRoA (a : Nat) : Option (List Int32) := match Nat.ble 1100 a && Nat.blt a 1117 with
  | true => mRoB[a - 1100]?
  | false => match Nat.beq a 1200 with
    | true => some mDigT
    | false => match Nat.beq a 1201 with
      | true => some mDigO
      | false => none
def mval (ad : Nat → Nat) (v : mV) : Value := match v with
  | .inl x => .int x
  | .inr r => va_rf (r.map ad)
def mUp (M : mM) (c : Nat) (g : Nat → Int32) : mM := fun c' => if c' = c then g else M c'
def mW1 (M : mM) (c k : Nat) (x : Int32) : mM := mUp M c (upd (M c) k x)
def mRes (r : Option mV) (S : List mV) : List mV := match r with
  | none => S
  | some v => v :: S
def mBin (X : mS → Prop) (f : Int32 → Int32 → Int32) (n pc : Nat) (L : mL) (S : List mV) (M : mM) : Prop := match S with
  | .inl y :: .inl x :: r => X (pc + n, L, .inl (f x y) :: r, M)
  | _ => False
def mDiv (X : mS → Prop) (f : Int32 → Int32 → Int32) (n pc : Nat) (L : mL) (S : List mV) (M : mM) : Prop := match S with
  | .inl y :: .inl x :: r => ¬ y = 0 ∧ X (pc + n, L, .inl (f x y) :: r, M)
  | _ => False
def mUn (X : mS → Prop) (f : Int32 → Int32) (n pc : Nat) (L : mL) (S : List mV) (M : mM) : Prop := match S with
  | .inl x :: r => X (pc + n, L, .inl (f x) :: r, M)
  | _ => False
def mIf1 (X : mS → Prop) (c : Int32 → Prop) (n t pc : Nat) (L : mL) (S : List mV) (M : mM) : Prop := match S with
  | .inl x :: r => (c x → X (t, L, r, M)) ∧ (¬ c x → X (pc + n, L, r, M))
  | _ => False
def mIf2 (X : mS → Prop) (c : Int32 → Int32 → Prop) (n t pc : Nat) (L : mL) (S : List mV) (M : mM) : Prop := match S with
  | .inl y :: .inl x :: r => (c x y → X (t, L, r, M)) ∧ (¬ c x y → X (pc + n, L, r, M))
  | _ => False
def mLd (X : mS → Prop) (i n pc : Nat) (L : mL) (S : List mV) (M : mM) : Prop := match L[i]? with
  | some (some (.inl x)) => X (pc + n, L, .inl x :: S, M)
  | _ => False
def mLa (X : mS → Prop) (i n pc : Nat) (L : mL) (S : List mV) (M : mM) : Prop := match L[i]? with
  | some (some (.inr x)) => X (pc + n, L, .inr x :: S, M)
  | _ => False
def mSt (X : mS → Prop) (i n pc : Nat) (L : mL) (S : List mV) (M : mM) : Prop := match S with
  | .inl x :: r => match Nat.blt i L.length with
    | true => X (pc + n, L.set i (some (.inl x)), r, M)
    | false => False
  | _ => False
def mSa (X : mS → Prop) (i n pc : Nat) (L : mL) (S : List mV) (M : mM) : Prop := match S with
  | .inr x :: r => match Nat.blt i L.length with
    | true => X (pc + n, L.set i (some (.inr x)), r, M)
    | false => False
  | _ => False
def mSw (X : mS → Prop) (x : Int32) (d : Nat) (L : mL) (S : List mV) (M : mM) : List (Int32 × Nat) → Prop
  | [] => X (d, L, S, M)
  | q :: tl => (x = q.1 → X (q.2, L, S, M)) ∧ (¬ x = q.1 → mSw X x d L S M tl)
def mGet (SH : List mH) (F : mF) (X : mS → Prop) (idx pc : Nat) (L : mL) (S : List mV) (M : mM) : Prop := match S with
  | .inr (some a) :: r => match mRoS a with
    | true => match F.2.1 idx with
      | some q => match q.1, q.2.1 with
        | 0, 0 => X (pc + 3, L, .inr (some (a + 100)) :: r, M)
        | 0, 1 => X (pc + 3, L, .inl 0 :: r, M)
        | _, _ => False
      | none => False
    | false => match SH[a]?, F.2.1 idx with
      | some h, some q => match Nat.beq h.1 (q.1 + 5), h.2.2[q.2.1]? with
        | true, some none => X (pc + 3, L, .inl (M a q.2.1) :: r, M)
        | true, some (some c) => X (pc + 3, L, .inr (some c) :: r, M)
        | _, _ => False
      | _, _ => False
  | _ => False
def mPut (SH : List mH) (F : mF) (X : mS → Prop) (idx pc : Nat) (L : mL) (S : List mV) (M : mM) : Prop := match S with
  | .inl v :: .inr (some a) :: r => match SH[a]?, F.2.1 idx with
    | some h, some q => match Nat.beq h.1 (q.1 + 5), h.2.2[q.2.1]? with
      | true, some none => match q.2.2 with
        | 0 => X (pc + 3, L, r, mW1 M a q.2.1 v)
        | 1 => (v = 0 ∨ v = 1) ∧ X (pc + 3, L, r, mW1 M a q.2.1 v)
        | 3 => v.toInt8.toInt32 = v ∧ X (pc + 3, L, r, mW1 M a q.2.1 v)
        | _ => False
      | _, _ => False
    | _, _ => False
  | _ => False
def mArr (SH : List mH) (X : mS → Prop) (kd pc : Nat) (L : mL) (S : List mV) (M : mM) : Prop := match S with
  | .inl i :: .inr (some a) :: r => match SH[a]? with
    | some h => match Nat.beq h.1 kd with
      | true => vp_in i h.2.1 ∧ X (pc + 1, L, .inl (M a i.toNatClampNeg) :: r, M)
      | false => False
    | none => False
  | _ => False
def mBal (SH : List mH) (X : mS → Prop) (pc : Nat) (L : mL) (S : List mV) (M : mM) : Prop := match S with
  | .inl i :: .inr (some a) :: r => match mRoA a with
    | some l => vp_in i l.length ∧ X (pc + 1, L, .inl (l.getD i.toNatClampNeg 0) :: r, M)
    | none => match SH[a]? with
      | some h => match Nat.beq h.1 3 with
        | true => vp_in i h.2.1 ∧ X (pc + 1, L, .inl (M a i.toNatClampNeg) :: r, M)
        | false => False
      | none => False
  | _ => False
def mArs (SH : List mH) (X : mS → Prop) (kd : Nat) (f : Int32 → Int32) (pc : Nat) (L : mL) (S : List mV) (M : mM) : Prop := match S with
  | .inl x :: .inl i :: .inr (some a) :: r => match SH[a]? with
    | some h => match Nat.beq h.1 kd with
      | true => vp_in i h.2.1 ∧ X (pc + 1, L, r, mW1 M a i.toNatClampNeg (f x))
      | false => False
    | none => False
  | _ => False
def mArq (SH : List mH) (X : mS → Prop) (pc : Nat) (L : mL) (S : List mV) (M : mM) : Prop := match S with
  | .inl i :: .inr (some a) :: r => match SH[a]? with
    | some h => match h.1 with
      | 1 => vp_in i h.2.1 ∧ X (pc + 1, L, .inr ((h.2.2[i.toNatClampNeg]?).getD none) :: r, M)
      | 2 => vp_in i h.2.1 ∧ X (pc + 1, L, .inr ((h.2.2[i.toNatClampNeg]?).getD none) :: r, M)
      | _ => False
    | none => False
  | _ => False
def mLen (SH : List mH) (X : mS → Prop) (pc : Nat) (L : mL) (S : List mV) (M : mM) : Prop := match S with
  | .inr (some a) :: r => match mRoA a with
    | some l => X (pc + 1, L, .inl (nI l.length) :: r, M)
    | none => match SH[a]? with
      | some h => match Nat.blt h.1 4 with
        | true => X (pc + 1, L, .inl (nI h.2.1) :: r, M)
        | false => False
      | none => False
  | _ => False
/-! the same, of a cell whose number is an expression: what stands there is asked -/
def mArrX (SH : List mH) (X : mS → Prop) (pc : Nat) (L : mL) (S : List mV) (M : mM) : Prop := match S with
  | .inl i :: .inr (some a) :: r => ∃ (n : Nat) (rs : List (Option Nat)), SH[a]? = some (0, n, rs) ∧ vp_in i n ∧ X (pc + 1, L, .inl (M a i.toNatClampNeg) :: r, M)
  | _ => False
def mArsX (SH : List mH) (X : mS → Prop) (pc : Nat) (L : mL) (S : List mV) (M : mM) : Prop := match S with
  | .inl x :: .inl i :: .inr (some a) :: r => ∃ (n : Nat) (rs : List (Option Nat)), SH[a]? = some (0, n, rs) ∧ vp_in i n ∧ X (pc + 1, L, r, mW1 M a i.toNatClampNeg x)
  | _ => False
def mArqX (SH : List mH) (X : mS → Prop) (pc : Nat) (L : mL) (S : List mV) (M : mM) : Prop := match S with
  | .inl i :: .inr (some a) :: r => ∃ (n k c : Nat) (rs : List (Option Nat)), SH[a]? = some (1, n, rs) ∧ i = nI k ∧ k < n ∧ n < 2 ^ 31 ∧ rs[k]? = some (some c) ∧ X (pc + 1, L, .inr (some c) :: r, M)
  | _ => False
def mLenX (SH : List mH) (X : mS → Prop) (pc : Nat) (L : mL) (S : List mV) (M : mM) : Prop := match S with
  | .inr (some a) :: r => ∃ (n : Nat) (rs : List (Option Nat)), mRoA a = none ∧ SH[a]? = some (0, n, rs) ∧ X (pc + 1, L, .inl (nI n) :: r, M)
  | _ => False
def mNul (X : mS → Prop) (yes no : Nat) (L : mL) (S : List mV) (M : mM) : Prop := match S with
  | .inr none :: r => X (yes, L, r, M)
  | .inr (some _) :: r => X (no, L, r, M)
  | _ => False
def mCal (F : mF) (X : mS → Prop) (idx pc : Nat) (L : mL) (S : List mV) (M : mM) : Prop := match F.2.2.1 idx with
  | some q => match Nat.ble q.1 S.length && Nat.ble S.length (q.1 + 8) with
    | true => q.2 ((S.take q.1).reverse) M (fun r M' => X (pc + 3, L, mRes r (S.drop q.1), M'))
    | false => False
  | none => False
def mEnd (ret : Option FieldType) (P : mP) (S : List mV) (M : mM) : Prop := match S with
  | [.inl v] => match ret with
    | some .int => P (some (.inl v)) M
    | some .boolean => (v = 0 ∨ v = 1) ∧ P (some (.inl v)) M
    | some .char => (v.toUInt32 % 65536).toInt32 = v ∧ P (some (.inl v)) M
    | some .byte => v.toInt8.toInt32 = v ∧ P (some (.inl v)) M
    | _ => False
  | _ => False
def mEndA (ret : Option FieldType) (P : mP) (S : List mV) (M : mM) : Prop := match S with
  | [.inr r] => match ret with
    | some (.object _) => P (some (.inr r)) M
    | some (.array _) => P (some (.inr r)) M
    | _ => False
  | _ => False
def mEndV (ret : Option FieldType) (P : mP) (S : List mV) (M : mM) : Prop := match S with
  | [] => match ret with
    | none => P none M
    | _ => False
  | _ => False
def mOp (SH : List mH) (F : mF) (P : mP) (X : mS → Prop) (e : mI) (pc : Nat) (L : mL) (S : List mV) (M : mM) : Prop := match e.1 with
  | .iconst _ => X (pc + 1, L, .inl e.2.2.2.1 :: S, M)
  | .bipush _ => X (pc + 2, L, .inl e.2.2.2.1 :: S, M)
  | .sipush _ => X (pc + 3, L, .inl e.2.2.2.1 :: S, M)
  | .ldc idx => match F.2.2.2.1 idx with
    | some v => X (pc + 2, L, v :: S, M)
    | none => False
  | .ldc_w idx => match F.2.2.2.1 idx with
    | some v => X (pc + 3, L, v :: S, M)
    | none => False
  | .getstatic idx => match F.2.2.2.2.1 idx with
    | some v => X (pc + 3, L, v :: S, M)
    | none => False
  | .aconst_null => X (pc + 1, L, .inr none :: S, M)
  | .iload_n _ => mLd X e.2.2.1 1 pc L S M
  | .iload _ => mLd X e.2.2.1 2 pc L S M
  | .aload_n _ => mLa X e.2.2.1 1 pc L S M
  | .aload _ => mLa X e.2.2.1 2 pc L S M
  | .istore_n _ => mSt X e.2.2.1 1 pc L S M
  | .istore _ => mSt X e.2.2.1 2 pc L S M
  | .astore_n _ => mSa X e.2.2.1 1 pc L S M
  | .astore _ => mSa X e.2.2.1 2 pc L S M
  | .iinc _ _ => match L[e.2.2.1]? with
    | some (some (.inl x)) => X (pc + 3, L.set e.2.2.1 (some (.inl (x + e.2.2.2.1))), S, M)
    | _ => False
  | .iadd => mBin X (fun x y => x + y) 1 pc L S M
  | .isub => mBin X (fun x y => x - y) 1 pc L S M
  | .imul => mBin X (fun x y => x * y) 1 pc L S M
  | .idiv => mDiv X (fun x y => x / y) 1 pc L S M
  | .irem => mDiv X (fun x y => x - x / y * y) 1 pc L S M
  | .ineg => mUn X (fun x => -x) 1 pc L S M
  | .ishl => mBin X (fun x y => x <<< (y &&& 31)) 1 pc L S M
  | .ishr => mBin X (fun x y => x >>> (y &&& 31)) 1 pc L S M
  | .iushr => mBin X (fun x y => (x.toUInt32 >>> (y.toUInt32 &&& Int32.toUInt32 31)).toInt32) 1 pc L S M
  | .iand => mBin X (fun x y => x &&& y) 1 pc L S M
  | .ior => mBin X (fun x y => x ||| y) 1 pc L S M
  | .ixor => mBin X (fun x y => x ^^^ y) 1 pc L S M
  | .i2b => mUn X (fun x => x.toInt8.toInt32) 1 pc L S M
  | .i2c => mUn X (fun x => (x.toUInt32 % 65536).toInt32) 1 pc L S M
  | .dup => match S with
    | v :: r => X (pc + 1, L, v :: v :: r, M)
    | _ => False
  | .pop => match S with
    | _ :: r => X (pc + 1, L, r, M)
    | _ => False
  | .dup_x1 => match S with
    | v :: w :: r => X (pc + 1, L, v :: w :: v :: r, M)
    | _ => False
  | .dup2 => match S with
    | v :: w :: r => X (pc + 1, L, v :: w :: v :: w :: r, M)
    | _ => False
  | .getfield idx => mGet SH F X idx pc L S M
  | .putfield idx => mPut SH F X idx pc L S M
  | .iaload => match e.2.2.1 with
    | 0 => mArr SH X 0 pc L S M
    | _ => mArrX SH X pc L S M
  | .baload => mBal SH X pc L S M
  | .iastore => match e.2.2.1 with
    | 0 => mArs SH X 0 (fun x => x) pc L S M
    | _ => mArsX SH X pc L S M
  | .bastore => mArs SH X 3 (fun x => x.toInt8.toInt32) pc L S M
  | .aaload => match e.2.2.1 with
    | 0 => mArq SH X pc L S M
    | _ => mArqX SH X pc L S M
  | .arraylength => match e.2.2.1 with
    | 0 => mLen SH X pc L S M
    | _ => mLenX SH X pc L S M
  | .ifCond .eq _ => mIf1 X (fun x => x = 0) 3 e.2.2.1 pc L S M
  | .ifCond .ne _ => mIf1 X (fun x => ¬ x = 0) 3 e.2.2.1 pc L S M
  | .ifCond .lt _ => mIf1 X (fun x => x < 0) 3 e.2.2.1 pc L S M
  | .ifCond .ge _ => mIf1 X (fun x => 0 ≤ x) 3 e.2.2.1 pc L S M
  | .ifCond .gt _ => mIf1 X (fun x => 0 < x) 3 e.2.2.1 pc L S M
  | .ifCond .le _ => mIf1 X (fun x => x ≤ 0) 3 e.2.2.1 pc L S M
  | .if_icmp .eq _ => mIf2 X (fun x y => x = y) 3 e.2.2.1 pc L S M
  | .if_icmp .ne _ => mIf2 X (fun x y => ¬ x = y) 3 e.2.2.1 pc L S M
  | .if_icmp .lt _ => mIf2 X (fun x y => x < y) 3 e.2.2.1 pc L S M
  | .if_icmp .ge _ => mIf2 X (fun x y => y ≤ x) 3 e.2.2.1 pc L S M
  | .if_icmp .gt _ => mIf2 X (fun x y => y < x) 3 e.2.2.1 pc L S M
  | .if_icmp .le _ => mIf2 X (fun x y => x ≤ y) 3 e.2.2.1 pc L S M
  | .goto _ => X (e.2.2.1, L, S, M)
  | .ifnull _ => mNul X e.2.2.1 (pc + 3) L S M
  | .ifnonnull _ => mNul X (pc + 3) e.2.2.1 L S M
  | .tableswitch _ _ _ _ => match S with
    | .inl x :: r => mSw X x e.2.2.1 L r M e.2.2.2.2
    | _ => False
  | .lookupswitch _ _ => match S with
    | .inl x :: r => mSw X x e.2.2.1 L r M e.2.2.2.2
    | _ => False
  | .invokevirtual idx => mCal F X (3 * idx) pc L S M
  | .invokestatic idx => mCal F X (3 * idx + 1) pc L S M
  | .invokespecial idx => mCal F X (3 * idx + 2) pc L S M
  | .ireturn => mEnd F.2.2.2.2.2 P S M
  | .areturn => mEndA F.2.2.2.2.2 P S M
  | .return_ => mEndV F.2.2.2.2.2 P S M
  | _ => False
def mWp (SH : List mH) (F : mF) (P : mP) (X : mS → Prop) (σ : mS) : Prop := match F.1 σ.1 with
  | none => False
  | some e => mOp SH F P X e σ.1 σ.2.1 σ.2.2.1 σ.2.2.2
/-- from σ on the method comes to an end where P holds: in every X that is closed under its steps -/
def mRun (SH : List mH) (F : mF) (P : mP) (σ : mS) : Prop := ∀ X : mS → Prop, (∀ σ', mWp SH F P X σ' → X σ') → X σ
def mMono (F : mF) : Prop := ∀ (idx n : Nat) (T : mT), F.2.2.1 idx = some (n, T) → ∀ (a : List mV) (M : mM) (P Q : mP), (∀ r M', P r M' → Q r M') → T a M P → T a M Q
theorem mSw_mono {X Y : mS → Prop} (h : ∀ σ, X σ → Y σ) {x : Int32} {d : Nat} {L : mL} {S : List mV} {M : mM} : ∀ tl, mSw X x d L S M tl → mSw Y x d L S M tl
  | [], k => h _ k
  | _ :: tl, k => ⟨fun e => h _ (k.1 e), fun e => mSw_mono h tl (k.2 e)⟩
