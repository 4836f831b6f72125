/-! THE SMALL MACHINE: numbers, places, blocks. A value: an int, a long, a place. Memory: place, index, number. -/
abbrev mV : Type := Int ⊕ (Int ⊕ Nat)
abbrev mM : Type := Nat → Nat → Int
abbrev mL : Type := List (Option mV)
abbrev mI : Type := Instr × Nat × Nat × Nat
abbrev mK : Type := Option mV → Nat → mM → Prop
abbrev mC : Type := Nat → List mV → Nat → mM → mK → Prop
abbrev mJ : Type := Nat → mL → List mV → Nat → mM → Prop
abbrev mS : Type := Nat × (Nat → Int32)
def mj_NUL : Nat := 999999
def mj_SCR : Nat := 999998
def mj_STR : Nat := 999997
def mj_SPEC : Nat := 900000
def w32 (z : Int) : Int := z.bmod 4294967296
def w64 (z : Int) : Int := z.bmod 18446744073709551616
def i_and (a b : Int) : Int := (Int32.ofInt a &&& Int32.ofInt b).toInt
def i_or (a b : Int) : Int := (Int32.ofInt a ||| Int32.ofInt b).toInt
def i_xor (a b : Int) : Int := (Int32.ofInt a ^^^ Int32.ofInt b).toInt
def i_shl (a b : Int) : Int := (Int32.ofInt a <<< (Int32.ofInt b &&& 31)).toInt
def i_shr (a b : Int) : Int := (Int32.ofInt a >>> (Int32.ofInt b &&& 31)).toInt
def i_ushr (a b : Int) : Int := ((Int32.ofInt a).toUInt32 >>> ((Int32.ofInt b).toUInt32 &&& Int32.toUInt32 31)).toInt32.toInt
def l_and (a b : Int) : Int := (Int64.ofInt a &&& Int64.ofInt b).toInt
def l_or (a b : Int) : Int := (Int64.ofInt a ||| Int64.ofInt b).toInt
def l_shl (a b : Int) : Int := (Int64.ofInt a <<< ((Int32.ofInt b).toInt64 &&& 63)).toInt
def l_shr (a b : Int) : Int := (Int64.ofInt a >>> ((Int32.ofInt b).toInt64 &&& 63)).toInt
def l_cmp (a b : Int) : Int := if a < b then -1 else if a = b then 0 else 1
def i_chr (a : Int) : Int := a % 65536
/-- memory with one number changed -/
def mj_set (σ : mM) (q k : Nat) (x : Int) : mM := fun q' k' => if q' = q then (if k' = k then x else σ q' k') else σ q' k'
/-- a piece of a row over a row -/
def mj_cpy (σ : mM) (q0 sp q1 dp n : Nat) : mM := fun q' k' => if q' = q1 then (if dp ≤ k' ∧ k' < dp + n then σ q0 (sp + (k' - dp)) else σ q' k') else σ q' k'
/-- a new place -/
def mj_new (σ : mM) (n : Nat) (f : Nat → Int) : mM := fun q' k' => if q' = n then f k' else σ q' k'
def mj_clr (lv : mL) (i : Nat) : mL := match i with
  | 0 => lv
  | k + 1 => match lv.getD k none with
    | some (.inr (.inl _)) => lv.set k none
    | _ => lv
def mj_st1 (lv : mL) (i : Nat) (v : mV) : mL := (mj_clr lv i).set i (some v)
def mj_st2 (lv : mL) (i : Nat) (v : mV) : mL := ((mj_clr lv i).set i (some v)).set (i + 1) none
def mj_cat (v : mV) : Nat := match v with
  | .inr (.inl _) => 2
  | _ => 1
def mj_sum (st : List mV) : Nat := match st with
  | [] => 0
  | v :: s => mj_cat v + mj_sum s
/-- the first locals: the arguments, a long and nothing behind it -/
def mj_lv0 : List mV → mL
  | [] => []
  | v :: vs => match v with
    | .inr (.inl _) => some v :: none :: mj_lv0 vs
    | _ => some v :: mj_lv0 vs
def mj_pi (st : List mV) (f : Int → List mV → Prop) : Prop := match st with
  | .inl x :: s => f x s
  | _ => False
def mj_pl (st : List mV) (f : Int → List mV → Prop) : Prop := match st with
  | .inr (.inl x) :: s => f x s
  | _ => False
def mj_pr (st : List mV) (f : Nat → List mV → Prop) : Prop := match st with
  | .inr (.inr q) :: s => f q s
  | _ => False
def mj_args : Nat → List mV → List mV → (List mV → List mV → Prop) → Prop
  | 0, acc, st, f => f acc st
  | _ + 1, _, [], _ => False
  | k + 1, acc, v :: s, f => mj_args k (v :: acc) s f
def mj_tg (t : Nat) (x : Int) : mV := match t with
  | 1 => .inr (.inl x)
  | 2 => .inr (.inr x.toNat)
  | _ => .inl x
def mj_cmp (c : ClassFile.Cond) (x y : Int) : Bool := match c with
  | .eq => x == y
  | .ne => !(x == y)
  | .lt => decide (x < y)
  | .ge => !decide (x < y)
  | .gt => decide (y < x)
  | .le => !decide (y < x)
