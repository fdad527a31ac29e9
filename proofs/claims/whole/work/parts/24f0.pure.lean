def us_ox (f : Nat → us_St) (j : Nat) (x : us_St) : Nat → us_St := fun i => if i = j then x else f i
