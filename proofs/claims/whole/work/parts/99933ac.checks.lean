theorem snLw2 : ((List.range 187).all fun j => snPcF 0 0 (374 + j)) = true := by decide +kernel
