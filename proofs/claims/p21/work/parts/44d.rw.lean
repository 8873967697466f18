/-! ===== rows looked for, on both sides ===== -/
/-- the first of the rows of the fewest, from n on -/
noncomputable def fwR (S : Nat → Bool) (l : Int) : Nat → Nat → Option (List Nat)
  | 0, _ => none
  | f + 1, n => match rws S 30 n l with
    | [] => fwR S l f (n + 1)
    | r :: _ => some r
noncomputable def fwC (S : Nat → Bool) (l : Int) : Option (List Nat) := if l = 0 then some [] else if l < 0 then none else fwR S l 5 1
section RWL
variable {I : Im} {J : Jm} {R : Rm} {Q : Qt}
/-! the reference -/
/-! the class -/
end RWL
