theorem snLw3 : ((List.range 187).all fun j => snPcF 0 0 (561 + j)) = true := by decide +kernel
