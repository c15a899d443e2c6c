theorem snLw5 : ((List.range 187).all fun j => snPcF 0 0 (935 + j)) = true := by decide +kernel
