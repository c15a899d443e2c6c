theorem snLt1870 : ((List.range 63).all fun j => snPcF 0 0 (1870 + j)) = true := by decide +kernel
theorem snLt1933 : ((List.range 62).all fun j => snPcF 0 0 (1933 + j)) = true := by decide +kernel
theorem snLt1995 : ((List.range 62).all fun j => snPcF 0 0 (1995 + j)) = true := by decide +kernel
theorem snLw10 : ((List.range 187).all fun j => snPcF 0 0 (1870 + j)) = true := snLw_of (by omega) (by omega) snLt1870 snLt1933 snLt1995
theorem snLt2057 : ((List.range 63).all fun j => snPcF 0 0 (2057 + j)) = true := by decide +kernel
theorem snLt2120 : ((List.range 62).all fun j => snPcF 0 0 (2120 + j)) = true := by decide +kernel
theorem snLt2182 : ((List.range 62).all fun j => snPcF 0 0 (2182 + j)) = true := by decide +kernel
theorem snLw11 : ((List.range 187).all fun j => snPcF 0 0 (2057 + j)) = true := snLw_of (by omega) (by omega) snLt2057 snLt2120 snLt2182
