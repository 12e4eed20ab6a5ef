/-! ===== the abstract table: (phase, dealer, ranking, rule), bids, play, scores ===== -/
def oI : Option Nat → Int32
  | none => -1
  | some n => nI n
/-- (turn, doubles, passes), (number, trump, bidder), declarer, who first named (5 * side + trump) -/
abbrev aBd : Type := (Nat × Nat × Nat) × Option (Nat × Nat × Nat) × Option Nat × (Nat → Option Nat)
/-- (made, number, trump, doubles) of the last deal that was scored; the totals (6 * side + house) -/
abbrev aSc : Type := Option (Nat × Nat × Nat × Nat) × (Nat → Int32)
abbrev aT : Type := (Nat × Nat × Nat × Nat) × aBd × aP × aSc
def RpB (c : Nat) (M : mM) (b : aBd) : Prop := M c 1 = nI b.1.1 ∧ M c 5 = nI b.1.2.1 ∧ M c 6 = nI b.1.2.2 ∧ M c 2 = oI (b.2.1.map fun q => q.1) ∧ M c 3 = oI (b.2.1.map fun q => q.2.1) ∧ M c 4 = oI (b.2.1.map fun q => q.2.2 % 2) ∧ M c 7 = oI b.2.2.1 ∧ ∀ j, j < 10 → M (c + 1) j = oI (b.2.2.2 j)
def RpSc (c : Nat) (M : mM) (s : aSc) : Prop := M c 1 = (if s.1.isSome then 1 else 0) ∧ (∀ q, s.1 = some q → M c 2 = nI q.1 ∧ M c 3 = nI q.2.1 ∧ M c 4 = nI q.2.2.1 ∧ M c 5 = nI q.2.2.2) ∧ ∀ j, j < 12 → M (c + 1) j = s.2 j
/-- the Table at cell t (13 real, 26 thought) stands for T -/
def RpT (t : Nat) (M : mM) (T : aT) : Prop := (M t 3 = nI T.1.1 ∧ M t 4 = nI T.1.2.1 ∧ M t 5 = nI T.1.2.2.1 ∧ M t 6 = nI T.1.2.2.2) ∧ RpB (t + 1) M T.2.1 ∧ RpS (t + 3) M T.2.2.1 ∧ RpSc (t + 11) M T.2.2.2
def FrT (t : Nat) (M M' : mM) : Prop := ∀ c, (c < t ∨ t + 12 < c) → M' c = M c
theorem FrT.trans {t : Nat} {M M1 M2 : mM} (h : FrT t M M1) (k : FrT t M1 M2) : FrT t M M2 := fun c hc => (k c hc).trans (h c hc)
theorem FrT.refl {t : Nat} {M : mM} : FrT t M M := fun _ _ => rfl
def bd0 (dealer : Nat) : aBd := ((dealer, 0, 0), none, none, fun _ => none)
def pl0 : aP := (aX0, fun _ => 0, 0, 0, [])
def sc0 : aSc := (none, fun _ => 0)
/-- a table at the beginning -/
def tb0 : aT := ((0, 0, 0, 0), bd0 0, pl0, sc0)
def nx (p : Nat) : Nat := (p + 1) % 4
def tEnd (T : aT) : aT := ((0, nx T.1.2.1, T.1.2.2), T.2)
def bBid (b : aBd) (n t : Nat) : aBd := ((nx b.1.1, 0, 0), some (n, t, b.1.1), b.2.2.1, fun j => if j = 5 * (b.1.1 % 2) + t ∧ b.2.2.2 j = none then some b.1.1 else b.2.2.2 j)
def bDbl (b : aBd) : aBd := ((nx b.1.1, b.1.2.1 + 1, 0), b.2)
def bPass (b : aBd) : aBd := ((nx b.1.1, b.1.2.1, b.1.2.2 + 1), b.2)
/-- what the side s has won in the play -/
def pWon (p : aP) (s : Nat) : Int32 := nI (aWn p.1 p.2.2.2.2 s (p.2.2.2.2.length / 4)) + (if s = 0 then p.2.2.1 else p.2.2.2.1)
/-- the deal's score is counted in -/
def sSet (s : aSc) (b : aBd) (m : Nat) : aSc :=
  match b.2.1 with
  | none => s
  | some (n, t, q) => (some (m, n, t, b.1.2.1), fun j => if j / 6 = q % 2 then s.2 j + fScore (nI (j % 6)) (nI m) (nI n) (nI t) (nI b.1.2.1) else s.2 j)
def pMade (p : aP) (b : aBd) : Nat :=
  match b.2.1 with
  | none => 0
  | some (_, _, q) => ub (pWon p (q % 2))
def tSet (T : aT) : aT := tEnd (T.1, T.2.1, T.2.2.1, sSet T.2.2.2 T.2.1 (pMade T.2.2.1 T.2.1))
def tPass (T : aT) : aT :=
  match (bPass T.2.1).2.1 with
  | none => if 4 ≤ (bPass T.2.1).1.2.2 then tEnd (T.1, bPass T.2.1, T.2.2) else (T.1, bPass T.2.1, T.2.2)
  | some (_, t, q) => if 3 ≤ (bPass T.2.1).1.2.2 then ((2, T.1.2), ((bPass T.2.1).1, (bPass T.2.1).2.1, T.2.1.2.2.2 (5 * (q % 2) + t), T.2.1.2.2.2), ((nI t, T.1.2.2.1, nI T.1.2.2.2, nx ((T.2.1.2.2.2 (5 * (q % 2) + t)).getD 0)), T.2.2.1.2.1, 0, 0, []), T.2.2.2) else (T.1, bPass T.2.1, T.2.2)
def pAdd (p : aP) (c : Nat) : aP := (p.1, p.2.1, p.2.2.1, p.2.2.2.1, p.2.2.2.2 ++ [c])
def tPlay (T : aT) (c : Nat) : aT := if T.2.2.1.2.2.2.2.length + 1 = 32 then tSet (T.1, T.2.1, pAdd T.2.2.1 c, T.2.2.2) else (T.1, T.2.1, pAdd T.2.2.1 c, T.2.2.2)
/-- a claim of n of the tricks left, by the side in turn -/
def pClaim (p : aP) (n : Nat) : aP := (p.1, p.2.1, p.2.2.1 + nI (if aSd p.1 p.2.2.2.2 = 0 then n else 8 - p.2.2.2.2.length / 4 - n), p.2.2.2.1 + nI (if aSd p.1 p.2.2.2.2 = 1 then n else 8 - p.2.2.2.2.length / 4 - n), p.2.2.2.2)
def tClaim (T : aT) (n : Nat) : aT := tSet (T.1, T.2.1, pClaim T.2.2.1 n, T.2.2.2)
/-- an act: (word, number, suit) as the log keeps it -/
def tStep (T : aT) (a : Nat × Int32 × Int32) : aT :=
  if a.1 = 0 then ((1, T.1.2), bd0 T.1.2.1, (aX0, aDl0 a.2.1, 0, 0, []), T.2.2.2)
  else if a.1 = 1 then (T.1, bBid T.2.1 (ub a.2.1) (ub a.2.2), T.2.2)
  else if a.1 = 2 then tPass T
  else if a.1 = 3 ∨ a.1 = 4 then (T.1, bDbl T.2.1, T.2.2)
  else if a.1 = 5 then tPlay T (8 * ub a.2.2 + ub a.2.1)
  else if a.1 = 6 then tClaim T (ub a.2.1)
  else if a.1 = 7 then ((T.1.1, T.1.2.1, ub a.2.1, T.1.2.2.2), T.2)
  else ((T.1.1, T.1.2.1, T.1.2.2.1, ub a.2.1), T.2)
/-- the table after the acts of a log -/
def tFold : List (Nat × Int32 × Int32) → aT → aT
  | [], T => T
  | a :: l, T => tFold l (tStep T a)
