/-! ===== every method is checked (the law's own code in thirds of 187 bytes: a check of 187 at once takes Lean 8 GB) ===== -/
def snPcF (ci μ pc : Nat) : Bool := match zmFetch μ pc with
  | none => true
  | some i => decide (decode (snB μ) pc = .ok (i.1, i.2.1)) && snOkF ci (snN μ).cls μ pc i
theorem snLw_of {g g2 g3 : Nat} (e2 : g2 = g + 63) (e3 : g3 = g + 125) (h1 : ((List.range 63).all fun j => snPcF 0 0 (g + j)) = true) (h2 : ((List.range 62).all fun j => snPcF 0 0 (g2 + j)) = true) (h3 : ((List.range 62).all fun j => snPcF 0 0 (g3 + j)) = true) : ((List.range 187).all fun j => snPcF 0 0 (g + j)) = true := by
  refine List.all_eq_true.mpr (fun j hj => ?_)
  have h := List.mem_range.mp hj
  rw [e2] at h2
  rw [e3] at h3
  by_cases q1 : j < 63
  · exact List.all_eq_true.mp h1 j (List.mem_range.mpr q1)
  · by_cases q2 : j < 125
    · have h3 := List.all_eq_true.mp h2 (j - 63) (List.mem_range.mpr (by omega))
      rw [show g + 63 + (j - 63) = g + j by omega] at h3
      exact h3
    · have h3 := List.all_eq_true.mp h3 (j - 125) (List.mem_range.mpr (by omega))
      rw [show g + 125 + (j - 125) = g + j by omega] at h3
      exact h3
theorem snLt0 : ((List.range 63).all fun j => snPcF 0 0 (0 + j)) = true := by decide +kernel
theorem snLt63 : ((List.range 62).all fun j => snPcF 0 0 (63 + j)) = true := by decide +kernel
theorem snLt125 : ((List.range 62).all fun j => snPcF 0 0 (125 + j)) = true := by decide +kernel
theorem snLw0 : ((List.range 187).all fun j => snPcF 0 0 (0 + j)) = true := snLw_of (by omega) (by omega) snLt0 snLt63 snLt125
theorem snLt187 : ((List.range 63).all fun j => snPcF 0 0 (187 + j)) = true := by decide +kernel
theorem snLt250 : ((List.range 62).all fun j => snPcF 0 0 (250 + j)) = true := by decide +kernel
theorem snLt312 : ((List.range 62).all fun j => snPcF 0 0 (312 + j)) = true := by decide +kernel
theorem snLw1 : ((List.range 187).all fun j => snPcF 0 0 (187 + j)) = true := snLw_of (by omega) (by omega) snLt187 snLt250 snLt312
