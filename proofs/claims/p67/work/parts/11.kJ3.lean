abbrev mJ3_checkFromIndexSize_8c36e : gM := (17, yJ3_checkFromIndexSize_8c36e, cJ3_checkFromIndexSize_8c36e, 4, (some .int), [], none)
theorem kJ3_checkFromIndexSize_8c36e_0 : gAt mJ3_checkFromIndexSize_8c36e 0 [(.iload_n 2, 0, 0, 0), (.iload_n 0, 0, 0, 0), (.ior, 0, 0, 0), (.iload_n 1, 0, 0, 0), (.ior, 0, 0, 0), (.ifCond .lt 10, 15, 0, 0), (.iload_n 1, 0, 0, 0), (.iload_n 2, 0, 0, 0), (.iload_n 0, 0, 0, 0), (.isub, 0, 0, 0), (.if_icmp .le 11, 23, 0, 0)] = true := by decide +kernel
theorem kJ3_checkFromIndexSize_8c36e_15 : gAt mJ3_checkFromIndexSize_8c36e 15 [(.aload_n 3, 0, 0, 0), (.iload_n 0, 0, 0, 0), (.iload_n 1, 0, 0, 0), (.iload_n 2, 0, 0, 0)] = true := by decide +kernel
theorem kJ3_checkFromIndexSize_8c36e_23 : gAt mJ3_checkFromIndexSize_8c36e 23 [(.iload_n 0, 0, 0, 0), (.ireturn, 0, 0, 0)] = true := by decide +kernel
abbrev mJ3_checkFromToIndex_8c36e : gM := (17, yJ3_checkFromToIndex_8c36e, cJ3_checkFromToIndex_8c36e, 4, (some .int), [], none)
theorem kJ3_checkFromToIndex_8c36e_0 : gAt mJ3_checkFromToIndex_8c36e 0 [(.iload_n 0, 0, 0, 0), (.ifCond .lt 13, 14, 0, 0), (.iload_n 0, 0, 0, 0), (.iload_n 1, 0, 0, 0), (.if_icmp .gt 8, 14, 0, 0), (.iload_n 1, 0, 0, 0), (.iload_n 2, 0, 0, 0), (.if_icmp .le 11, 22, 0, 0)] = true := by decide +kernel
theorem kJ3_checkFromToIndex_8c36e_14 : gAt mJ3_checkFromToIndex_8c36e 14 [(.aload_n 3, 0, 0, 0), (.iload_n 0, 0, 0, 0), (.iload_n 1, 0, 0, 0), (.iload_n 2, 0, 0, 0)] = true := by decide +kernel
theorem kJ3_checkFromToIndex_8c36e_22 : gAt mJ3_checkFromToIndex_8c36e 22 [(.iload_n 0, 0, 0, 0), (.ireturn, 0, 0, 0)] = true := by decide +kernel
abbrev mJ3_checkIndex_8e157 : gM := (17, yJ3_checkIndex_8e157, cJ3_checkIndex_8e157, 3, (some .int), [], none)
theorem kJ3_checkIndex_8e157_0 : gAt mJ3_checkIndex_8e157 0 [(.iload_n 0, 0, 0, 0), (.ifCond .lt 8, 9, 0, 0), (.iload_n 0, 0, 0, 0), (.iload_n 1, 0, 0, 0), (.if_icmp .lt 10, 16, 0, 0)] = true := by decide +kernel
theorem kJ3_checkIndex_8e157_9 : gAt mJ3_checkIndex_8e157 9 [(.aload_n 2, 0, 0, 0), (.iload_n 0, 0, 0, 0), (.iload_n 1, 0, 0, 0)] = true := by decide +kernel
theorem kJ3_checkIndex_8e157_16 : gAt mJ3_checkIndex_8e157 16 [(.iload_n 0, 0, 0, 0), (.ireturn, 0, 0, 0)] = true := by decide +kernel
