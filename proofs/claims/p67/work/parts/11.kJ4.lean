abbrev mJ4_init_da8c8 : gM := (10, yJ4_init_da8c8, cJ4_init_da8c8, 1, none, [], none)
theorem kJ4_init_da8c8_0 : gAt mJ4_init_da8c8 0 [(.aload_n 0, 0, 0, 0), (.bipush 16, 0, 0, 0)] = true := by decide +kernel
theorem kJ4_init_da8c8_6 : gAt mJ4_init_da8c8 6 [(.return_, 0, 0, 0)] = true := by decide +kernel
abbrev mJ4_init_a7421 : gM := (10, yJ4_init_a7421, cJ4_init_a7421, 2, none, [], none)
theorem kJ4_init_a7421_0 : gAt mJ4_init_a7421 0 [(.aload_n 0, 0, 0, 0), (.aload_n 1, 0, 0, 0)] = true := by decide +kernel
theorem kJ4_init_a7421_5 : gAt mJ4_init_a7421 5 [(.return_, 0, 0, 0)] = true := by decide +kernel
abbrev mJ4_append_bf812 : gM := (10, yJ4_append_bf812, cJ4_append_bf812, 2, (some (.object "java/lang/StringBuilder")), [], none)
theorem kJ4_append_bf812_0 : gAt mJ4_append_bf812 0 [(.aload_n 0, 0, 0, 0), (.iload_n 1, 0, 0, 0)] = true := by decide +kernel
theorem kJ4_append_bf812_5 : gAt mJ4_append_bf812 5 [(.pop, 0, 0, 0), (.aload_n 0, 0, 0, 0), (.areturn, 0, 0, 0)] = true := by decide +kernel
abbrev mJ4_append_15ec4 : gM := (10, yJ4_append_15ec4, cJ4_append_15ec4, 2, (some (.object "java/lang/StringBuilder")), [], none)
theorem kJ4_append_15ec4_0 : gAt mJ4_append_15ec4 0 [(.aload_n 0, 0, 0, 0), (.aload_n 1, 0, 0, 0)] = true := by decide +kernel
theorem kJ4_append_15ec4_5 : gAt mJ4_append_15ec4 5 [(.pop, 0, 0, 0), (.aload_n 0, 0, 0, 0), (.areturn, 0, 0, 0)] = true := by decide +kernel
abbrev mJ4_toString_0e30d : gM := (10, yJ4_toString_0e30d, cJ4_toString_0e30d, 1, (some (.object "java/lang/String")), [], none)
theorem kJ4_toString_0e30d_3 : gAt mJ4_toString_0e30d 3 [(.dup, 0, 0, 0), (.aload_n 0, 0, 0, 0)] = true := by decide +kernel
theorem kJ4_toString_0e30d_8 : gAt mJ4_toString_0e30d 8 [(.areturn, 0, 0, 0)] = true := by decide +kernel
abbrev mJ4_append_cf1ce : gM := (10, yJ4_append_cf1ce, cJ4_append_cf1ce, 2, (some (.object "java/lang/AbstractStringBuilder")), [], none)
theorem kJ4_append_cf1ce_0 : gAt mJ4_append_cf1ce 0 [(.aload_n 0, 0, 0, 0), (.aload_n 1, 0, 0, 0)] = true := by decide +kernel
theorem kJ4_append_cf1ce_5 : gAt mJ4_append_cf1ce 5 [(.areturn, 0, 0, 0)] = true := by decide +kernel
abbrev mJ4_length_8abf5 : gM := (10, yJ4_length_8abf5, cJ4_length_8abf5, 1, (some .int), [], none)
theorem kJ4_length_8abf5_0 : gAt mJ4_length_8abf5 0 [(.aload_n 0, 0, 0, 0)] = true := by decide +kernel
theorem kJ4_length_8abf5_4 : gAt mJ4_length_8abf5 4 [(.ireturn, 0, 0, 0)] = true := by decide +kernel
