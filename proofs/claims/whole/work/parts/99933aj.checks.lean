theorem snLw9 : ((List.range 187).all fun j => snPcF 0 0 (1683 + j)) = true := by decide +kernel
