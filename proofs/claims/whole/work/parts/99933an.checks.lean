theorem snLw11c : ((List.range 62).all fun j => snPcF 0 0 (2182 + j)) = true := by decide +kernel
theorem snLw11 : ((List.range 187).all fun j => snPcF 0 0 (2057 + j)) = true := by
  refine List.all_eq_true.mpr (fun j hj => ?_)
  have h := List.mem_range.mp hj
  by_cases h1 : j < 63
  · exact List.all_eq_true.mp snLw11a j (List.mem_range.mpr h1)
  · by_cases h2 : j < 125
    · have h3 := List.all_eq_true.mp snLw11b (j - 63) (List.mem_range.mpr (by omega))
      rw [show 2120 + (j - 63) = 2057 + j by omega] at h3
      exact h3
    · have h3 := List.all_eq_true.mp snLw11c (j - 125) (List.mem_range.mpr (by omega))
      rw [show 2182 + (j - 125) = 2057 + j by omega] at h3
      exact h3
