theorem snLt374 : ((List.range 63).all fun j => snPcF 0 0 (374 + j)) = true := by decide +kernel
theorem snLt437 : ((List.range 62).all fun j => snPcF 0 0 (437 + j)) = true := by decide +kernel
theorem snLt499 : ((List.range 62).all fun j => snPcF 0 0 (499 + j)) = true := by decide +kernel
theorem snLw2 : ((List.range 187).all fun j => snPcF 0 0 (374 + j)) = true := snLw_of (by omega) (by omega) snLt374 snLt437 snLt499
theorem snLt561 : ((List.range 63).all fun j => snPcF 0 0 (561 + j)) = true := by decide +kernel
theorem snLt624 : ((List.range 62).all fun j => snPcF 0 0 (624 + j)) = true := by decide +kernel
theorem snLt686 : ((List.range 62).all fun j => snPcF 0 0 (686 + j)) = true := by decide +kernel
theorem snLw3 : ((List.range 187).all fun j => snPcF 0 0 (561 + j)) = true := snLw_of (by omega) (by omega) snLt561 snLt624 snLt686
