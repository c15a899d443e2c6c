theorem snLw11b : ((List.range 62).all fun j => snPcF 0 0 (2120 + j)) = true := by decide +kernel
