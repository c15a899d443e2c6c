theorem snLw11a : ((List.range 63).all fun j => snPcF 0 0 (2057 + j)) = true := by decide +kernel
