/-! looking things up in the tables -/
def lk (l : List (Nat × Nat × Nat)) (own x : Nat) : Option Nat := (l.find? (fun e => e.1 == own && e.2.1 == x)).map (fun e => e.2.2)
def lkI (l : List (Nat × Nat × Int)) (own x : Nat) : Option Int := (l.find? (fun e => e.1 == own && e.2.1 == x)).map (fun e => e.2.2)
/-- where the byte place pc + off stands among a method's rows -/
def ix (T : List (Nat × Instr × Nat)) (pc : Nat) (off : Int) : Option Int := (T.findIdx? (fun e => (e.1 : Int) == (pc : Int) + off)).map (fun n => (n : Int))
def oi (o : Option Instr) : Instr := o.getD .nop
