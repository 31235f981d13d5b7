/-- x's own numbers -/
def j_wk (k : Nat) : Bool := Nat.ble 3 k && Nat.ble k 6
