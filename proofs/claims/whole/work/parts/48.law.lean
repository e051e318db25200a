/-! WHAT IS OWED OF THE ABSTRACT MACHINE -/
def bytT : Nat → List Int32
  | 0 => [120, 121, 97, 110, 117, 100]
  | 1 => [48, 49, 50, 51, 52, 53, 54, 55, 56, 57]
  | 2 => [45, 65]
  | 3 => [42, 47]
  | 4 => [49, 50, 51, 52, 53, 54, 55, 56, 57]
  | _ => [43, 45]
/-- what is there before the law begins: the script at 1048576, the texts at 1048577 .., their bytes at 1048583 .. -/
def X0 (L : Nat) (xs : Nat → Int32) : Nat → Option AC := fun a =>
  if a < 1048576 then none
  else if a = 1048576 then some (.inl (.char, L, .inl xs))
  else if a < 1048583 then some (cO 14 [.ref (a + 6), .int 0])
  else if a < 1048589 then some (.inl (.byte, (bytT (a - 1048583)).length, .inl (fun j => (bytT (a - 1048583)).getD j 0)))
  else none
def H0 (L : Nat) (xs : Nat → Int32) : AH := (0, 0, X0 L xs)
def LawA : Prop := ∀ (L : Nat) (xs : Nat → Int32), L ≤ 3584 → ∃ (f : Nat) (o : OU), aX f 600 (310, 0, padL 7 [some (.ref 1048576)], [], H0 L xs) = some o ∧ o.1 = some (.int 1) ∧ o.2.1 ≤ 601024 ∧ o.2.2.1 ≤ 7293034
