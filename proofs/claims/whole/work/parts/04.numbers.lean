/-! numbers of classes and types -/
/-- is t the number of a type of references -/
def xtR (t : Nat) : Bool := Nat.ble 3 t && Nat.ble t 6
def xtyX (ci : Nat) : Nat → FieldType := match ci with
  | 0 => tyX0
  | 1 => tyX1
  | 2 => tyX2
  | 3 => tyX3
  | 4 => tyX4
  | 5 => tyX5
  | 6 => tyX6
  | 7 => tyX7
  | 8 => tyX8
  | 9 => tyX9
  | 10 => tyX10
  | 11 => tyX11
  | 12 => tyX12
  | _ => tyX13
def xnf (ci : Nat) : Nat := match ci with
  | 0 => 9
  | 1 => 3
  | 2 => 14
  | 3 => 4
  | 4 => 4
  | 5 => 2
  | 6 => 16
  | 7 => 6
  | 8 => 7
  | 9 => 3
  | 10 => 5
  | 11 => 9
  | 12 => 91
  | _ => 3
/-- a number out of 0 .. 2^32 - 1, as an int -/
def xcI (a : Nat) : Int32 := Int32.ofNat a
def xcL (a : Nat) : Int64 := Int64.ofNat a
