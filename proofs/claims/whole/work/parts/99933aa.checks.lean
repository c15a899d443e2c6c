/-! ===== every method is checked ===== -/
def snPcF (ci μ pc : Nat) : Bool := match zmFetch μ pc with
  | none => true
  | some i => decide (decode (snB μ) pc = .ok (i.1, i.2.1)) && snOkF ci (snN μ).cls μ pc i
theorem snLw0 : ((List.range 187).all fun j => snPcF 0 0 (0 + j)) = true := by decide +kernel
