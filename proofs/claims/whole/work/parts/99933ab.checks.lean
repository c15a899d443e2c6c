theorem snLw1 : ((List.range 187).all fun j => snPcF 0 0 (187 + j)) = true := by decide +kernel
