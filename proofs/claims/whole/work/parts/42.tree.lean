/-! what the class's tree must be for a ROUTINE with these ACTS: STILL OPEN (a stand-in, to be put in its place by the true one; no row may open it) -/
def rd_P (L : Nat) (K A B C : Nat → Int32) (n w j d : Int32) (t0 t1 t2 t3 t4 t5 t6 t7 : Nat → Int32) : Prop := True
