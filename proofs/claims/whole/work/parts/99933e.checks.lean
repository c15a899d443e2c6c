theorem snLt1496 : ((List.range 63).all fun j => snPcF 0 0 (1496 + j)) = true := by decide +kernel
theorem snLt1559 : ((List.range 62).all fun j => snPcF 0 0 (1559 + j)) = true := by decide +kernel
theorem snLt1621 : ((List.range 62).all fun j => snPcF 0 0 (1621 + j)) = true := by decide +kernel
theorem snLw8 : ((List.range 187).all fun j => snPcF 0 0 (1496 + j)) = true := snLw_of (by omega) (by omega) snLt1496 snLt1559 snLt1621
theorem snLt1683 : ((List.range 63).all fun j => snPcF 0 0 (1683 + j)) = true := by decide +kernel
theorem snLt1746 : ((List.range 62).all fun j => snPcF 0 0 (1746 + j)) = true := by decide +kernel
theorem snLt1808 : ((List.range 62).all fun j => snPcF 0 0 (1808 + j)) = true := by decide +kernel
theorem snLw9 : ((List.range 187).all fun j => snPcF 0 0 (1683 + j)) = true := snLw_of (by omega) (by omega) snLt1683 snLt1746 snLt1808
