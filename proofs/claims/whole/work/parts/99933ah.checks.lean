theorem snLw7 : ((List.range 187).all fun j => snPcF 0 0 (1309 + j)) = true := by decide +kernel
