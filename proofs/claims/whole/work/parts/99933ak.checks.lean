theorem snLw10 : ((List.range 187).all fun j => snPcF 0 0 (1870 + j)) = true := by decide +kernel
