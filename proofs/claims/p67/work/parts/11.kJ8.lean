abbrev mJ8_hugeLength_7cf53 : gM := (16, yJ8_hugeLength_7cf53, cJ8_hugeLength_7cf53, 3, (some .int), [], none)
theorem kJ8_hugeLength_7cf53_0 : gAt mJ8_hugeLength_7cf53 0 [(.iload_n 0, 0, 0, 0), (.iload_n 1, 0, 0, 0), (.iadd, 0, 0, 0), (.istore_n 2, 0, 0, 0), (.iload_n 2, 0, 0, 0), (.ifCond .ge 44, 49, 0, 0)] = true := by decide +kernel
theorem kJ8_hugeLength_7cf53_11 : gAt mJ8_hugeLength_7cf53 11 [(.dup, 0, 0, 0)] = true := by decide +kernel
theorem kJ8_hugeLength_7cf53_15 : gAt mJ8_hugeLength_7cf53 15 [(.dup, 0, 0, 0)] = true := by decide +kernel
theorem kJ8_hugeLength_7cf53_24 : gAt mJ8_hugeLength_7cf53 24 [(.iload_n 0, 0, 0, 0)] = true := by decide +kernel
theorem kJ8_hugeLength_7cf53_33 : gAt mJ8_hugeLength_7cf53 33 [(.iload_n 1, 0, 0, 0)] = true := by decide +kernel
theorem kJ8_hugeLength_7cf53_49 : gAt mJ8_hugeLength_7cf53 49 [(.iload_n 2, 0, 0, 0), (.ldc 200, 0, 4, 0), (.if_icmp .gt 6, 58, 0, 0), (.ldc 200, 0, 4, 0), (.ireturn, 0, 0, 0)] = true := by decide +kernel
theorem kJ8_hugeLength_7cf53_58 : gAt mJ8_hugeLength_7cf53 58 [(.iload_n 2, 0, 0, 0), (.ireturn, 0, 0, 0)] = true := by decide +kernel
abbrev mJ8_newLength_cabcc : gM := (16, yJ8_newLength_cabcc, cJ8_newLength_cabcc, 4, (some .int), [], none)
theorem kJ8_newLength_cabcc_0 : gAt mJ8_newLength_cabcc 0 [(.iload_n 0, 0, 0, 0), (.iload_n 1, 0, 0, 0), (.iload_n 2, 0, 0, 0)] = true := by decide +kernel
theorem kJ8_newLength_cabcc_6 : gAt mJ8_newLength_cabcc 6 [(.iadd, 0, 0, 0), (.istore_n 3, 0, 0, 0), (.iconst 0, 0, 0, 0), (.iload_n 3, 0, 0, 0), (.if_icmp .ge 11, 21, 0, 0), (.iload_n 3, 0, 0, 0), (.ldc 200, 0, 4, 0), (.if_icmp .gt 5, 21, 0, 0), (.iload_n 3, 0, 0, 0), (.ireturn, 0, 0, 0)] = true := by decide +kernel
theorem kJ8_newLength_cabcc_21 : gAt mJ8_newLength_cabcc 21 [(.iload_n 0, 0, 0, 0), (.iload_n 1, 0, 0, 0)] = true := by decide +kernel
theorem kJ8_newLength_cabcc_26 : gAt mJ8_newLength_cabcc 26 [(.ireturn, 0, 0, 0)] = true := by decide +kernel
