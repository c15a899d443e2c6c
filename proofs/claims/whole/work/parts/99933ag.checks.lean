theorem snLw6 : ((List.range 187).all fun j => snPcF 0 0 (1122 + j)) = true := by decide +kernel
