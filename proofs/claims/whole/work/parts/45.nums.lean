/-! ===== an int out of a Nat, under a name that stays ===== -/
def iN (k : Nat) : Int32 := Int32.ofNat k
