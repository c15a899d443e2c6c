theorem snLw11 : ((List.range 187).all fun j => snPcF 0 0 (2057 + j)) = true := by decide +kernel
