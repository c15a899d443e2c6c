theorem snLw8 : ((List.range 187).all fun j => snPcF 0 0 (1496 + j)) = true := by decide +kernel
