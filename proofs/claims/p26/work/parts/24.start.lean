/-- T at the start -/
def H0m : Mm := fun c => if c = 1 then perm else zr
def T0 : Nat → Mm := fun j => if j = 0 then (fun _ => zr) else if j = 4 then H0m else if j = 9 then (fun _ => zr) else B0
