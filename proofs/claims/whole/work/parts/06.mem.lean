/-! The memory of the walk, in words of its own: cells by number (0 to 19 those that were there before, from 20 on those that the run makes), each of a kind, with its ints, longs and references. -/
abbrev Mm : Type := Nat × Nat × (Nat → Nat × Nat) × (Nat → Nat → Int32) × (Nat → Nat → Int64) × (Nat → Nat → Option Nat)
/-- the next cell's number -/
def mT (M : Mm) : Nat := M.1
/-- how many fields and elements were made -/
def mW (M : Mm) : Nat := M.2.1
/-- kind and length: 1 to 10 objects of the classes, 20 int[], 21 long[], 22 Shelf[], 23 Sign[], 24 Thing[], 25 int[][], 26 long[][]; only read: 30 int[], 31 byte[], 32 String -/
def mK (M : Mm) : Nat → Nat × Nat := M.2.2.1
def mI (M : Mm) : Nat → Nat → Int32 := M.2.2.2.1
def mJ (M : Mm) : Nat → Nat → Int64 := M.2.2.2.2.1
def mR (M : Mm) : Nat → Nat → Option Nat := M.2.2.2.2.2
def u2 {α : Type} (f : Nat → Nat → α) (a k : Nat) (v : α) : Nat → Nat → α := fun x j => if x = a ∧ j = k then v else f x j
def u1 {α : Type} (f : Nat → α) (a : Nat) (v : α) : Nat → α := fun x => if x = a then v else f x
def sI (M : Mm) (a k : Nat) (v : Int32) : Mm := (mT M, mW M, mK M, u2 (mI M) a k v, mJ M, mR M)
def sJ (M : Mm) (a k : Nat) (v : Int64) : Mm := (mT M, mW M, mK M, mI M, u2 (mJ M) a k v, mR M)
def sR (M : Mm) (a k : Nat) (v : Option Nat) : Mm := (mT M, mW M, mK M, mI M, mJ M, u2 (mR M) a k v)
/-- a new cell of a kind, of n slots, all of them 0 or null -/
def sN (M : Mm) (kd n w : Nat) : Mm := (mT M + 1, mW M + w, u1 (mK M) (mT M) (kd, n), u1 (mI M) (mT M) (fun _ => 0), u1 (mJ M) (mT M) (fun _ => 0), u1 (mR M) (mT M) (fun _ => none))
/-- an index within -/
def okx (i : Int32) (n : Nat) : Prop := ¬ i < 0 ∧ i.toNatClampNeg < n
/-- fields of an object of class c -/
def fI (M : Mm) (c o k : Nat) : Option Int32 := if (mK M o).1 = c + 1 then some (mI M o k) else none
def fR (M : Mm) (c o k : Nat) : Option Nat := if (mK M o).1 = c + 1 then mR M o k else none
def pI (M : Mm) (c o k : Nat) (v : Int32) : Option Mm := if (mK M o).1 = c + 1 then some (sI M o k v) else none
def pZ (M : Mm) (c o k : Nat) (v : Int32) : Option Mm := if (mK M o).1 = c + 1 ∧ v &&& 1 = v then some (sI M o k v) else none
def pR (M : Mm) (c o k : Nat) (v : Nat) : Option Mm := if (mK M o).1 = c + 1 then some (sR M o k (some v)) else none
/-- arrays -/
def aL (M : Mm) (o : Nat) : Option Int32 := if (20 ≤ (mK M o).1 ∧ (mK M o).1 < 27) ∨ (mK M o).1 = 30 ∨ (mK M o).1 = 31 then some (Int32.ofNat (mK M o).2) else none
def aI (M : Mm) (o : Nat) (i : Int32) : Option Int32 := if ((mK M o).1 = 20 ∨ (mK M o).1 = 30) ∧ ¬ i < 0 ∧ i.toNatClampNeg < (mK M o).2 then some (mI M o i.toNatClampNeg) else none
def aB (M : Mm) (o : Nat) (i : Int32) : Option Int32 := if (mK M o).1 = 31 ∧ ¬ i < 0 ∧ i.toNatClampNeg < (mK M o).2 then some (mI M o i.toNatClampNeg) else none
def aJ (M : Mm) (o : Nat) (i : Int32) : Option Int64 := if (mK M o).1 = 21 ∧ ¬ i < 0 ∧ i.toNatClampNeg < (mK M o).2 then some (mJ M o i.toNatClampNeg) else none
def aR (M : Mm) (kd o : Nat) (i : Int32) : Option (Option Nat) := if (mK M o).1 = kd ∧ ¬ i < 0 ∧ i.toNatClampNeg < (mK M o).2 then some (mR M o i.toNatClampNeg) else none
def tI (M : Mm) (o : Nat) (i : Int32) (v : Int32) : Option Mm := if (mK M o).1 = 20 ∧ ¬ i < 0 ∧ i.toNatClampNeg < (mK M o).2 then some (sI M o i.toNatClampNeg v) else none
def tJ (M : Mm) (o : Nat) (i : Int32) (v : Int64) : Option Mm := if (mK M o).1 = 21 ∧ ¬ i < 0 ∧ i.toNatClampNeg < (mK M o).2 then some (sJ M o i.toNatClampNeg v) else none
/-- a reference to an object of class c (or null) into an array of kind kd -/
def tR (M : Mm) (kd c o : Nat) (i : Int32) (v : Option Nat) : Option Mm := if (mK M o).1 = kd ∧ ¬ i < 0 ∧ i.toNatClampNeg < (mK M o).2 ∧ (∀ a, v = some a → (mK M a).1 = c + 1) then some (sR M o i.toNatClampNeg v) else none
/-- a new object of class c with w fields, a new array of n elements -/
def nO (M : Mm) (c w : Nat) : Option (Nat × Mm) := some (mT M, sN M (c + 1) 0 w)
def nA (M : Mm) (kd : Nat) (n : Int32) : Option (Nat × Mm) := if ¬ n < 0 ∧ n.toNatClampNeg ≤ 4096 then some (mT M, sN M kd n.toNatClampNeg n.toNatClampNeg) else none
/-- rows laid one behind another -/
def sRows (kd m : Nat) : Nat → Mm → Mm
  | 0, M => M
  | i + 1, M => sN (sRows kd m i M) kd m m
/-- new T[n][m]: the outer array, then its rows -/
def nG (M : Mm) (ko ki : Nat) (n m : Int32) : Option (Nat × Mm) := if ¬ n < 0 ∧ ¬ m < 0 ∧ n.toNatClampNeg ≤ 64 ∧ m.toNatClampNeg ≤ 64 then
    (let M1 := sRows ki m.toNatClampNeg n.toNatClampNeg (sN M ko n.toNatClampNeg n.toNatClampNeg)
     some (mT M, mT M1, mW M1, mK M1, mI M1, mJ M1, u1 (mR M1) (mT M) (fun j => if j < n.toNatClampNeg then some (mT M + 1 + j) else none))) else none
/-- System.arraycopy between two long[] -/
def cJ (M : Mm) (a : Nat) (i : Int32) (b : Nat) (j n : Int32) : Option Mm :=
  if (mK M a).1 = 21 ∧ (mK M b).1 = 21 ∧ ¬ i < 0 ∧ ¬ j < 0 ∧ ¬ n < 0 ∧ i.toNatClampNeg + n.toNatClampNeg ≤ (mK M a).2 ∧ j.toNatClampNeg + n.toNatClampNeg ≤ (mK M b).2 then
    some (mT M, mW M, mK M, mI M, (fun x k => if x = b ∧ j.toNatClampNeg ≤ k ∧ k < j.toNatClampNeg + n.toNatClampNeg then mJ M a (i.toNatClampNeg + (k - j.toNatClampNeg)) else mJ M x k), mR M) else none
/-- what may be stuck -/
def dI (x y : Int32) : Option Int32 := if y = 0 then none else some (x / y)
def mdI (x y : Int32) : Option Int32 := if y = 0 then none else some (x - x / y * y)
def dJ (x y : Int64) : Option Int64 := if y = 0 then none else some (x / y)
def mdJ (x y : Int64) : Option Int64 := if y = 0 then none else some (x - x / y * y)
/-- Math's max, min, abs -/
def mxI (x y : Int32) : Int32 := if x < y then y else x
def mnI (x y : Int32) : Int32 := if y < x then y else x
def abI (x : Int32) : Int32 := if 0 ≤ x then x else 0 - x
def mxJ (x y : Int64) : Int64 := if y < x then x else y
/-- a boolean answer -/
def rZ (v : Int32) : Option Int32 := if v &&& 1 = v then some v else none
/-- a byte, a char as an answer -/
def rB (v : Int32) : Option Int32 := if v.toInt8.toInt32 = v then some v else none
def rC (v : Int32) : Option Int32 := if v.toUInt32.toUInt16.toUInt32.toInt32 = v then some v else none
/-- turns of a loop: more than any run needs -/
def FU : Nat := 2000
/-- an object is of class c -/
def kc (M : Mm) (c o : Nat) : Option Unit := if (mK M o).1 = c + 1 then some () else none
theorem kc_of {M : Mm} {c o : Nat} {u : Unit} (h : kc M c o = some u) : (mK M o).1 = c + 1 := by
  unfold kc at h
  split at h
  · assumption
  · cases h
theorem iteT {α : Type} {c : Prop} [Decidable c] {A B : Option α} {q : α} (h : (if c then A else B) = some q) (hc : c) : A = some q := by rw [if_pos hc] at h; exact h
theorem iteF {α : Type} {c : Prop} [Decidable c] {A B : Option α} {q : α} (h : (if c then A else B) = some q) (hc : ¬ c) : B = some q := by rw [if_neg hc] at h; exact h
theorem bnd {α β : Type} {o : Option α} {f : α → Option β} {b : β} (h : o.bind f = some b) : ∃ a, o = some a ∧ f a = some b := Option.bind_eq_some_iff.mp h
