theorem snLt1122 : ((List.range 63).all fun j => snPcF 0 0 (1122 + j)) = true := by decide +kernel
theorem snLt1185 : ((List.range 62).all fun j => snPcF 0 0 (1185 + j)) = true := by decide +kernel
theorem snLt1247 : ((List.range 62).all fun j => snPcF 0 0 (1247 + j)) = true := by decide +kernel
theorem snLw6 : ((List.range 187).all fun j => snPcF 0 0 (1122 + j)) = true := snLw_of (by omega) (by omega) snLt1122 snLt1185 snLt1247
theorem snLt1309 : ((List.range 63).all fun j => snPcF 0 0 (1309 + j)) = true := by decide +kernel
theorem snLt1372 : ((List.range 62).all fun j => snPcF 0 0 (1372 + j)) = true := by decide +kernel
theorem snLt1434 : ((List.range 62).all fun j => snPcF 0 0 (1434 + j)) = true := by decide +kernel
theorem snLw7 : ((List.range 187).all fun j => snPcF 0 0 (1309 + j)) = true := snLw_of (by omega) (by omega) snLt1309 snLt1372 snLt1434
