/-- the state behind both constructors -/
def gS0i (k : Nat) : Nat → Int32 := match k with
  | 8 => fun j => ([40, 200, 1, 0, 0] : List Int32).getD j 0
  | 9 => fun j => ([40, 200, 1, 0, 0] : List Int32).getD j 0
  | 10 => fun j => ([0, 0, 0, (-2), 0, 0, 0, 0] : List Int32).getD j 0
  | 30 => fun j => ([40, 200, 1, 0, 0] : List Int32).getD j 0
  | 40 => fun j => ([0, (-1), 0, 0, 0] : List Int32).getD j 0
  | 42 => fun j => ([0, (-1), 0, 0, 0] : List Int32).getD j 0
  | 44 => fun j => ([0, (-1), 0, 0, 0] : List Int32).getD j 0
  | 46 => fun j => ([0, (-1), 0, 0, 0] : List Int32).getD j 0
  | 48 => fun j => ([0, (-1), 0, 0, 0] : List Int32).getD j 0
  | 50 => fun j => ([0, (-1), 0, 0, 0] : List Int32).getD j 0
  | 59 => upd (upd (upd (fun _ => 0) (Int32.toNatClampNeg 0) 40) (Int32.toNatClampNeg 1) 200) (Int32.toNatClampNeg 2) 1
  | 76 => upd (upd (upd (upd (upd (upd (fun _ => 0) (Int32.toNatClampNeg 0) (-1)) (Int32.toNatClampNeg 1) (-1)) (Int32.toNatClampNeg 2) (-1)) (Int32.toNatClampNeg 3) (-1)) (Int32.toNatClampNeg 4) (-1)) (Int32.toNatClampNeg 5) (-1)
  | _ => fun _ => 0
def gS0r (k : Nat) : Nat → Option Nat := match k with
  | 0 => fun j => if j = 7 then some 18 else if j = 8 then some 23 else none
  | _ => fun _ => none
def gS0 : gS := (gS0i, fun _ _ => 0, gS0r)
