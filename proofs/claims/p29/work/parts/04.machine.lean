/-! A small machine of numbers: ints are whole numbers, cells have numbers 1, 2 .. (0: the script). What it answers the JVM answers too (part 06). -/
abbrev AV : Type := Int ⊕ Nat
abbrev LV : Type := List (Option AV)
abbrev AH : Type := List (Nat × Nat) × (Nat → Nat → Nat) × (Nat → Nat → Int)
abbrev AR : Type := Option AV × AH
abbrev AN : Type := Nat × LV × List AV × AH
abbrev AC : Type := Nat × LV × Nat × List AV
abbrev AT : Type := AN ⊕ (AC ⊕ Option AV)
def aNext (pc : Nat) (lv : LV) (st : List AV) (h : AH) : Option AT := some (.inl (pc, lv, st, h))
def bck {α : Type} (lo hi x : Int) (a : Option α) : Option α := if lo ≤ x ∧ x ≤ hi then a else none
def chk {α : Type} (x : Int) (a : Option α) : Option α := bck (-2147483648) 2147483647 x a
def setO (iv : Nat → Nat → Int) (a : Nat) (f : Nat → Int) : Nat → Nat → Int := fun k => if k = a then f else iv k
def upI (f : Nat → Int) (i : Nat) (x : Int) : Nat → Int := fun j => if j = i then x else f j
def setR (rf : Nat → Nat → Nat) (a i v : Nat) : Nat → Nat → Nat := fun k j => if k = a ∧ j = i then v else rf k j
def gI {α : Type} (lv : LV) (i : Nat) (K : Int → Option α) : Option α := match lv[i]? with
  | some (some (.inl x)) => K x
  | _ => none
def gR {α : Type} (lv : LV) (i : Nat) (K : Nat → Option α) : Option α := match lv[i]? with
  | some (some (.inr x)) => K x
  | _ => none
def sI {α : Type} (st : List AV) (K : Int → List AV → Option α) : Option α := match st with
  | .inl x :: st' => K x st'
  | _ => none
def sR {α : Type} (st : List AV) (K : Nat → List AV → Option α) : Option α := match st with
  | .inr x :: st' => K x st'
  | _ => none
def gd {α : Type} (b : Bool) (a : Option α) : Option α := match b with
  | true => a
  | false => none
def gO {α β : Type} (o : Option β) (K : β → Option α) : Option α := match o with
  | some x => K x
  | none => none
/-- a jump -/
def jmp {α : Type} (pc : Nat) (off : Int) (K : Nat → Option α) : Option α := if 0 ≤ (pc : Int) + off then K ((pc : Int) + off).toNat else none
def cmpB (c : Jvm.ClassFile.Cond) (x y : Int) : Bool := match c with
  | .eq => decide (x = y)
  | .ne => decide (x ≠ y)
  | .lt => decide (x < y)
  | .ge => decide (y ≤ x)
  | .gt => decide (y < x)
  | .le => decide (x ≤ y)
/-- the cell a is of kind k and length n -/
def isA {α : Type} (h : AH) (a k : Nat) (K : Nat → Option α) : Option α := match a with
  | 0 => none
  | b + 1 => match h.1[b]? with
    | some (k', n) => if k' = k then K n else none
    | none => none
def aSl (cs : List (Nat × Nat)) : Nat := (cs.map fun q => q.2).sum
def ent (n : Nat) (vs : List AV) : LV := vs.map some ++ List.replicate (n - vs.length) none
