abbrev mJ7_checkLength_df160 : gM := (15, yJ7_checkLength_df160, cJ7_checkLength_df160, 2, none, [], none)
theorem kJ7_checkLength_df160_0 : gAt mJ7_checkLength_df160 0 [(.iload_n 1, 0, 0, 0), (.iload_n 0, 0, 0, 0), (.if_icmp .ge 35, 37, 0, 0)] = true := by decide +kernel
theorem kJ7_checkLength_df160_8 : gAt mJ7_checkLength_df160 8 [(.dup, 0, 0, 0)] = true := by decide +kernel
theorem kJ7_checkLength_df160_12 : gAt mJ7_checkLength_df160 12 [(.dup, 0, 0, 0)] = true := by decide +kernel
theorem kJ7_checkLength_df160_16 : gAt mJ7_checkLength_df160 16 [(.iload_n 0, 0, 0, 0)] = true := by decide +kernel
theorem kJ7_checkLength_df160_26 : gAt mJ7_checkLength_df160 26 [(.iload_n 1, 0, 0, 0)] = true := by decide +kernel
theorem kJ7_checkLength_df160_37 : gAt mJ7_checkLength_df160 37 [(.return_, 0, 0, 0)] = true := by decide +kernel
abbrev mJ7_copyOf_9075b : gM := (15, yJ7_copyOf_9075b, cJ7_copyOf_9075b, 3, (some (.array .byte)), [], none)
theorem kJ7_copyOf_9075b_0 : gAt mJ7_copyOf_9075b 0 [(.iload_n 1, 0, 0, 0), (.aload_n 0, 0, 0, 0)] = true := by decide +kernel
theorem kJ7_copyOf_9075b_3 : gAt mJ7_copyOf_9075b 3 [(.if_icmp .ne 11, 14, 0, 0), (.aload_n 0, 0, 0, 0)] = true := by decide +kernel
theorem kJ7_copyOf_9075b_13 : gAt mJ7_copyOf_9075b 13 [(.areturn, 0, 0, 0)] = true := by decide +kernel
theorem kJ7_copyOf_9075b_14 : gAt mJ7_copyOf_9075b 14 [(.iload_n 1, 0, 0, 0)] = true := by decide +kernel
theorem kJ7_copyOf_9075b_17 : gAt mJ7_copyOf_9075b 17 [(.astore_n 2, 0, 0, 0), (.aload_n 0, 0, 0, 0), (.iconst 0, 0, 0, 0), (.aload_n 2, 0, 0, 0), (.iconst 0, 0, 0, 0), (.aload_n 0, 0, 0, 0)] = true := by decide +kernel
theorem kJ7_copyOf_9075b_24 : gAt mJ7_copyOf_9075b 24 [(.iload_n 1, 0, 0, 0)] = true := by decide +kernel
theorem kJ7_copyOf_9075b_31 : gAt mJ7_copyOf_9075b 31 [(.aload_n 2, 0, 0, 0), (.areturn, 0, 0, 0)] = true := by decide +kernel
abbrev mJ7_copyOfRange_39247 : gM := (15, yJ7_copyOfRange_39247, cJ7_copyOfRange_39247, 3, (some (.array .byte)), [], none)
theorem kJ7_copyOfRange_39247_0 : gAt mJ7_copyOfRange_39247 0 [(.iload_n 1, 0, 0, 0), (.ifCond .ne 9, 10, 0, 0), (.iload_n 2, 0, 0, 0), (.aload_n 0, 0, 0, 0)] = true := by decide +kernel
theorem kJ7_copyOfRange_39247_7 : gAt mJ7_copyOfRange_39247 7 [(.if_icmp .eq 10, 17, 0, 0)] = true := by decide +kernel
theorem kJ7_copyOfRange_39247_10 : gAt mJ7_copyOfRange_39247 10 [(.aload_n 0, 0, 0, 0), (.iload_n 1, 0, 0, 0), (.iload_n 2, 0, 0, 0)] = true := by decide +kernel
theorem kJ7_copyOfRange_39247_16 : gAt mJ7_copyOfRange_39247 16 [(.areturn, 0, 0, 0)] = true := by decide +kernel
theorem kJ7_copyOfRange_39247_17 : gAt mJ7_copyOfRange_39247 17 [(.aload_n 0, 0, 0, 0)] = true := by decide +kernel
theorem kJ7_copyOfRange_39247_24 : gAt mJ7_copyOfRange_39247 24 [(.areturn, 0, 0, 0)] = true := by decide +kernel
abbrev mJ7_copyOfRangeByte_39247 : gM := (15, yJ7_copyOfRangeByte_39247, cJ7_copyOfRangeByte_39247, 5, (some (.array .byte)), [], none)
theorem kJ7_copyOfRangeByte_39247_0 : gAt mJ7_copyOfRangeByte_39247 0 [(.iload_n 1, 0, 0, 0), (.iload_n 2, 0, 0, 0)] = true := by decide +kernel
theorem kJ7_copyOfRangeByte_39247_5 : gAt mJ7_copyOfRangeByte_39247 5 [(.iload_n 2, 0, 0, 0), (.iload_n 1, 0, 0, 0), (.isub, 0, 0, 0), (.istore_n 3, 0, 0, 0), (.iload_n 3, 0, 0, 0)] = true := by decide +kernel
theorem kJ7_copyOfRangeByte_39247_12 : gAt mJ7_copyOfRangeByte_39247 12 [(.astore 4, 0, 0, 0), (.aload_n 0, 0, 0, 0), (.iload_n 1, 0, 0, 0), (.aload 4, 0, 0, 0), (.iconst 0, 0, 0, 0), (.aload_n 0, 0, 0, 0)] = true := by decide +kernel
theorem kJ7_copyOfRangeByte_39247_21 : gAt mJ7_copyOfRangeByte_39247 21 [(.iload_n 1, 0, 0, 0), (.isub, 0, 0, 0), (.iload_n 3, 0, 0, 0)] = true := by decide +kernel
theorem kJ7_copyOfRangeByte_39247_30 : gAt mJ7_copyOfRangeByte_39247 30 [(.aload 4, 0, 0, 0), (.areturn, 0, 0, 0)] = true := by decide +kernel
