/-! colorings counted one by one -/
def qopen (G : q_G) (c : Nat → Int) (v x : Nat) : Bool := !qany (qhit G c v (x : Int)) (qK G)
