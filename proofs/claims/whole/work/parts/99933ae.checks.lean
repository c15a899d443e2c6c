theorem snLw4 : ((List.range 187).all fun j => snPcF 0 0 (748 + j)) = true := by decide +kernel
