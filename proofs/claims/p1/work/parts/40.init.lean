set_option maxRecDepth 100000
section YINIT
/-- the unknown numbers of the script -/
def yus : List (Nat × xV) := [(0, .inl (.ref 0)), (1, .inl (.ref 1)), (2, .inl (.ref 2)), (3, .inl (.ref 3)), (4, .inl (.ref 4)), (5, .inl (.ref 5)), (6, .inl (.ref 6))]
def yrow : List (Option yO) := [none, none, none, none, none, none, none, none, none, none, none, none, none, none, none, none]
/-- the objects at the law's entry: the script, and the list's own empty array -/
def yT0 (L : Nat) : yT := (0, 0, 0, ([.inr (9, L, .inl (.int 0), yus), .inr (4, 0, .inl .null, [])], [yrow, yrow, yrow, yrow, yrow, yrow, yrow, yrow, yrow, yrow, yrow, yrow, yrow, yrow, yrow, yrow]))
/-- did a run of the law answer true, within its room -/
def yone (o : yE × xR × yT) : Bool := match o.2.1 with
  | .inl (some (.inl (.int x))) => decide (x = 1) && (Nat.ble o.2.2.2.1 600002 && Nat.ble o.2.2.2.2.1 7302232)
  | _ => false
def yall (os : Option (List (yE × xR × yT))) : Bool := match os with
  | some l => l.all yone
  | none => false
/-- whose ends are put together -/
def yJ (m : Nat) : Nat := match Nat.beq m 47 || (Nat.beq m 48 || (Nat.beq m 49 || (Nat.beq m 60 || (Nat.beq m 62)))) with
  | true => 1
  | false => match Nat.beq m 9 with
    | true => 2
    | false => 0
noncomputable def ylaw (L : Nat) (E : yE) : Bool := yall (yrun xPP yJ 6000 12 137 0 [(0, .inr (0, 0))] [] (yT0 L) E)
/-- a script of seven ints whose first call is this one -/
def yop (c : Nat) : yE := ([(20, [(2147483648 + c, 2147483648 + c + 1)])], [])
end YINIT
