theorem snLt748 : ((List.range 63).all fun j => snPcF 0 0 (748 + j)) = true := by decide +kernel
theorem snLt811 : ((List.range 62).all fun j => snPcF 0 0 (811 + j)) = true := by decide +kernel
theorem snLt873 : ((List.range 62).all fun j => snPcF 0 0 (873 + j)) = true := by decide +kernel
theorem snLw4 : ((List.range 187).all fun j => snPcF 0 0 (748 + j)) = true := snLw_of (by omega) (by omega) snLt748 snLt811 snLt873
theorem snLt935 : ((List.range 63).all fun j => snPcF 0 0 (935 + j)) = true := by decide +kernel
theorem snLt998 : ((List.range 62).all fun j => snPcF 0 0 (998 + j)) = true := by decide +kernel
theorem snLt1060 : ((List.range 62).all fun j => snPcF 0 0 (1060 + j)) = true := by decide +kernel
theorem snLw5 : ((List.range 187).all fun j => snPcF 0 0 (935 + j)) = true := snLw_of (by omega) (by omega) snLt935 snLt998 snLt1060
