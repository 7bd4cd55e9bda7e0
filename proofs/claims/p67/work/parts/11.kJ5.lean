abbrev mJ5_init_d00df : gM := (13, yJ5_init_d00df, cJ5_init_d00df, 2, none, [], none)
theorem kJ5_init_d00df_0 : gAt mJ5_init_d00df 0 [(.aload_n 0, 0, 0, 0)] = true := by decide +kernel
theorem kJ5_init_d00df_7 : gAt mJ5_init_d00df 7 [(.ifCond .eq 18, 25, 0, 0), (.aload_n 0, 0, 0, 0), (.iload_n 1, 0, 0, 0)] = true := by decide +kernel
theorem kJ5_init_d00df_14 : gAt mJ5_init_d00df 14 [(.putfield 15, 10, 0, 2), (.aload_n 0, 0, 0, 0), (.iconst 0, 0, 0, 0)] = true := by decide +kernel
theorem kJ5_init_d00df_22 : gAt mJ5_init_d00df 22 [(.goto 16, 38, 0, 0)] = true := by decide +kernel
theorem kJ5_init_d00df_25 : gAt mJ5_init_d00df 25 [(.aload_n 0, 0, 0, 0), (.iload_n 1, 0, 0, 0)] = true := by decide +kernel
theorem kJ5_init_d00df_30 : gAt mJ5_init_d00df 30 [(.putfield 15, 10, 0, 2), (.aload_n 0, 0, 0, 0), (.iconst 1, 0, 0, 0)] = true := by decide +kernel
theorem kJ5_init_d00df_38 : gAt mJ5_init_d00df 38 [(.return_, 0, 0, 0)] = true := by decide +kernel
abbrev mJ5_init_a7421 : gM := (13, yJ5_init_a7421, cJ5_init_a7421, 5, none, [], none)
theorem kJ5_init_a7421_0 : gAt mJ5_init_a7421 0 [(.aload_n 0, 0, 0, 0)] = true := by decide +kernel
theorem kJ5_init_a7421_4 : gAt mJ5_init_a7421 4 [(.aload_n 1, 0, 0, 0)] = true := by decide +kernel
theorem kJ5_init_a7421_8 : gAt mJ5_init_a7421 8 [(.istore_n 2, 0, 0, 0), (.iload_n 2, 0, 0, 0), (.ldc 38, 0, 6, 0), (.if_icmp .ge 10, 22, 0, 0), (.iload_n 2, 0, 0, 0), (.bipush 16, 0, 0, 0), (.iadd, 0, 0, 0), (.goto 5, 24, 0, 0)] = true := by decide +kernel
theorem kJ5_init_a7421_22 : gAt mJ5_init_a7421 22 [(.ldc 39, 0, 5, 0)] = true := by decide +kernel
theorem kJ5_init_a7421_24 : gAt mJ5_init_a7421 24 [(.istore_n 3, 0, 0, 0), (.aload_n 1, 0, 0, 0)] = true := by decide +kernel
theorem kJ5_init_a7421_29 : gAt mJ5_init_a7421 29 [(.istore 4, 0, 0, 0), (.aload_n 0, 0, 0, 0), (.iload 4, 0, 0, 0)] = true := by decide +kernel
theorem kJ5_init_a7421_37 : gAt mJ5_init_a7421 37 [(.aload_n 0, 0, 0, 0), (.iload 4, 0, 0, 0), (.ifCond .ne 9, 49, 0, 0), (.iload_n 3, 0, 0, 0)] = true := by decide +kernel
theorem kJ5_init_a7421_46 : gAt mJ5_init_a7421 46 [(.goto 7, 53, 0, 0)] = true := by decide +kernel
theorem kJ5_init_a7421_49 : gAt mJ5_init_a7421 49 [(.iload_n 3, 0, 0, 0)] = true := by decide +kernel
theorem kJ5_init_a7421_53 : gAt mJ5_init_a7421 53 [(.putfield 15, 10, 0, 2), (.aload_n 0, 0, 0, 0), (.aload_n 1, 0, 0, 0)] = true := by decide +kernel
theorem kJ5_init_a7421_61 : gAt mJ5_init_a7421 61 [(.pop, 0, 0, 0), (.return_, 0, 0, 0)] = true := by decide +kernel
abbrev mJ5_append_c97b9 : gM := (13, yJ5_append_c97b9, cJ5_append_c97b9, 4, (some (.object "java/lang/AbstractStringBuilder")), [], none)
theorem kJ5_append_c97b9_0 : gAt mJ5_append_c97b9 0 [(.aload_n 0, 0, 0, 0), (.getfield 79, 10, 3, 0), (.istore_n 2, 0, 0, 0), (.iload_n 2, 0, 0, 0), (.iload_n 1, 0, 0, 0)] = true := by decide +kernel
theorem kJ5_append_c97b9_10 : gAt mJ5_append_c97b9 10 [(.iadd, 0, 0, 0), (.istore_n 3, 0, 0, 0), (.aload_n 0, 0, 0, 0), (.iload_n 3, 0, 0, 0)] = true := by decide +kernel
theorem kJ5_append_c97b9_17 : gAt mJ5_append_c97b9 17 [(.aload_n 0, 0, 0, 0)] = true := by decide +kernel
theorem kJ5_append_c97b9_21 : gAt mJ5_append_c97b9 21 [(.ifCond .eq 16, 37, 0, 0), (.iload_n 1, 0, 0, 0), (.iload_n 3, 0, 0, 0), (.aload_n 0, 0, 0, 0), (.getfield 15, 10, 0, 0)] = true := by decide +kernel
theorem kJ5_append_c97b9_33 : gAt mJ5_append_c97b9 33 [(.pop, 0, 0, 0), (.goto 14, 48, 0, 0)] = true := by decide +kernel
theorem kJ5_append_c97b9_37 : gAt mJ5_append_c97b9 37 [(.iload_n 1, 0, 0, 0), (.iload_n 2, 0, 0, 0), (.iload_n 3, 0, 0, 0), (.aload_n 0, 0, 0, 0), (.getfield 15, 10, 0, 0)] = true := by decide +kernel
theorem kJ5_append_c97b9_47 : gAt mJ5_append_c97b9 47 [(.pop, 0, 0, 0)] = true := by decide +kernel
theorem kJ5_append_c97b9_48 : gAt mJ5_append_c97b9 48 [(.aload_n 0, 0, 0, 0), (.iload_n 3, 0, 0, 0), (.putfield 79, 10, 3, 0), (.aload_n 0, 0, 0, 0), (.areturn, 0, 0, 0)] = true := by decide +kernel
abbrev mJ5_append_cf1ce : gM := (13, yJ5_append_cf1ce, cJ5_append_cf1ce, 3, (some (.object "java/lang/AbstractStringBuilder")), [], none)
theorem kJ5_append_cf1ce_0 : gAt mJ5_append_cf1ce 0 [(.aload_n 1, 0, 0, 0)] = true := by decide +kernel
theorem kJ5_append_cf1ce_4 : gAt mJ5_append_cf1ce 4 [(.aload_n 0, 0, 0, 0)] = true := by decide +kernel
theorem kJ5_append_cf1ce_8 : gAt mJ5_append_cf1ce 8 [(.areturn, 0, 0, 0)] = true := by decide +kernel
theorem kJ5_append_cf1ce_9 : gAt mJ5_append_cf1ce 9 [(.aload_n 1, 0, 0, 0)] = true := by decide +kernel
theorem kJ5_append_cf1ce_13 : gAt mJ5_append_cf1ce 13 [(.istore_n 2, 0, 0, 0), (.aload_n 0, 0, 0, 0), (.aload_n 0, 0, 0, 0), (.getfield 79, 10, 3, 0), (.iload_n 2, 0, 0, 0), (.iadd, 0, 0, 0)] = true := by decide +kernel
theorem kJ5_append_cf1ce_24 : gAt mJ5_append_cf1ce 24 [(.aload_n 0, 0, 0, 0), (.aload_n 0, 0, 0, 0), (.getfield 79, 10, 3, 0), (.aload_n 1, 0, 0, 0)] = true := by decide +kernel
theorem kJ5_append_cf1ce_33 : gAt mJ5_append_cf1ce 33 [(.aload_n 0, 0, 0, 0), (.dup, 0, 0, 0), (.getfield 79, 10, 3, 0), (.iload_n 2, 0, 0, 0), (.iadd, 0, 0, 0), (.putfield 79, 10, 3, 0), (.aload_n 0, 0, 0, 0), (.areturn, 0, 0, 0)] = true := by decide +kernel
abbrev mJ5_appendNull_278bc : gM := (13, yJ5_appendNull_278bc, cJ5_appendNull_278bc, 3, (some (.object "java/lang/AbstractStringBuilder")), [], none)
theorem kJ5_appendNull_278bc_0 : gAt mJ5_appendNull_278bc 0 [(.aload_n 0, 0, 0, 0), (.aload_n 0, 0, 0, 0), (.getfield 79, 10, 3, 0), (.iconst 4, 0, 0, 0), (.iadd, 0, 0, 0)] = true := by decide +kernel
theorem kJ5_appendNull_278bc_10 : gAt mJ5_appendNull_278bc 10 [(.aload_n 0, 0, 0, 0), (.getfield 79, 10, 3, 0), (.istore_n 1, 0, 0, 0), (.aload_n 0, 0, 0, 0), (.getfield 15, 10, 0, 0), (.astore_n 2, 0, 0, 0), (.aload_n 0, 0, 0, 0)] = true := by decide +kernel
theorem kJ5_appendNull_278bc_24 : gAt mJ5_appendNull_278bc 24 [(.ifCond .eq 38, 62, 0, 0), (.aload_n 2, 0, 0, 0), (.iload_n 1, 0, 0, 0), (.iinc 1 1, 0, 0, 0), (.bipush 110, 0, 0, 0), (.bastore, 0, 0, 0), (.aload_n 2, 0, 0, 0), (.iload_n 1, 0, 0, 0), (.iinc 1 1, 0, 0, 0), (.bipush 117, 0, 0, 0), (.bastore, 0, 0, 0), (.aload_n 2, 0, 0, 0), (.iload_n 1, 0, 0, 0), (.iinc 1 1, 0, 0, 0), (.bipush 108, 0, 0, 0), (.bastore, 0, 0, 0), (.aload_n 2, 0, 0, 0), (.iload_n 1, 0, 0, 0), (.iinc 1 1, 0, 0, 0), (.bipush 108, 0, 0, 0), (.bastore, 0, 0, 0), (.goto 17, 76, 0, 0)] = true := by decide +kernel
theorem kJ5_appendNull_278bc_62 : gAt mJ5_appendNull_278bc 62 [(.aload_n 2, 0, 0, 0), (.iload_n 1, 0, 0, 0), (.bipush 110, 0, 0, 0), (.bipush 117, 0, 0, 0), (.bipush 108, 0, 0, 0), (.bipush 108, 0, 0, 0)] = true := by decide +kernel
theorem kJ5_appendNull_278bc_75 : gAt mJ5_appendNull_278bc 75 [(.istore_n 1, 0, 0, 0)] = true := by decide +kernel
theorem kJ5_appendNull_278bc_76 : gAt mJ5_appendNull_278bc 76 [(.aload_n 0, 0, 0, 0), (.iload_n 1, 0, 0, 0), (.putfield 79, 10, 3, 0), (.aload_n 0, 0, 0, 0), (.areturn, 0, 0, 0)] = true := by decide +kernel
abbrev mJ5_ensureCapacityInternal_d00df : gM := (13, yJ5_ensureCapacityInternal_d00df, cJ5_ensureCapacityInternal_d00df, 3, none, [], none)
theorem kJ5_ensureCapacityInternal_d00df_0 : gAt mJ5_ensureCapacityInternal_d00df 0 [(.aload_n 0, 0, 0, 0), (.getfield 15, 10, 0, 0)] = true := by decide +kernel
theorem kJ5_ensureCapacityInternal_d00df_5 : gAt mJ5_ensureCapacityInternal_d00df 5 [(.aload_n 0, 0, 0, 0), (.getfield 22, 10, 1, 0), (.ishr, 0, 0, 0), (.istore_n 2, 0, 0, 0), (.iload_n 1, 0, 0, 0), (.iload_n 2, 0, 0, 0), (.isub, 0, 0, 0), (.ifCond .le 24, 38, 0, 0), (.aload_n 0, 0, 0, 0), (.aload_n 0, 0, 0, 0), (.getfield 15, 10, 0, 0), (.aload_n 0, 0, 0, 0), (.iload_n 1, 0, 0, 0)] = true := by decide +kernel
theorem kJ5_ensureCapacityInternal_d00df_27 : gAt mJ5_ensureCapacityInternal_d00df 27 [(.aload_n 0, 0, 0, 0), (.getfield 22, 10, 1, 0), (.ishl, 0, 0, 0)] = true := by decide +kernel
theorem kJ5_ensureCapacityInternal_d00df_35 : gAt mJ5_ensureCapacityInternal_d00df 35 [(.putfield 15, 10, 0, 2)] = true := by decide +kernel
theorem kJ5_ensureCapacityInternal_d00df_38 : gAt mJ5_ensureCapacityInternal_d00df 38 [(.return_, 0, 0, 0)] = true := by decide +kernel
abbrev mJ5_getValue_6d5f1 : gM := (13, yJ5_getValue_6d5f1, cJ5_getValue_6d5f1, 1, (some (.array .byte)), [], none)
theorem kJ5_getValue_6d5f1_0 : gAt mJ5_getValue_6d5f1 0 [(.aload_n 0, 0, 0, 0), (.getfield 15, 10, 0, 0), (.areturn, 0, 0, 0)] = true := by decide +kernel
abbrev mJ5_inflate_da8c8 : gM := (13, yJ5_inflate_da8c8, cJ5_inflate_da8c8, 2, none, [], none)
theorem kJ5_inflate_da8c8_0 : gAt mJ5_inflate_da8c8 0 [(.aload_n 0, 0, 0, 0)] = true := by decide +kernel
theorem kJ5_inflate_da8c8_4 : gAt mJ5_inflate_da8c8 4 [(.ifCond .ne 4, 8, 0, 0), (.return_, 0, 0, 0)] = true := by decide +kernel
theorem kJ5_inflate_da8c8_8 : gAt mJ5_inflate_da8c8 8 [(.aload_n 0, 0, 0, 0), (.getfield 15, 10, 0, 0)] = true := by decide +kernel
theorem kJ5_inflate_da8c8_16 : gAt mJ5_inflate_da8c8 16 [(.astore_n 1, 0, 0, 0), (.aload_n 0, 0, 0, 0), (.getfield 15, 10, 0, 0), (.iconst 0, 0, 0, 0), (.aload_n 1, 0, 0, 0), (.iconst 0, 0, 0, 0), (.aload_n 0, 0, 0, 0), (.getfield 79, 10, 3, 0)] = true := by decide +kernel
theorem kJ5_inflate_da8c8_31 : gAt mJ5_inflate_da8c8 31 [(.aload_n 0, 0, 0, 0), (.aload_n 1, 0, 0, 0), (.putfield 15, 10, 0, 2), (.aload_n 0, 0, 0, 0), (.iconst 1, 0, 0, 0)] = true := by decide +kernel
theorem kJ5_inflate_da8c8_41 : gAt mJ5_inflate_da8c8 41 [(.return_, 0, 0, 0)] = true := by decide +kernel
abbrev mJ5_inflateIfNeededFor_a7421 : gM := (13, yJ5_inflateIfNeededFor_a7421, cJ5_inflateIfNeededFor_a7421, 2, none, [], none)
theorem kJ5_inflateIfNeededFor_a7421_3 : gAt mJ5_inflateIfNeededFor_a7421 3 [(.ifCond .eq 18, 21, 0, 0), (.aload_n 0, 0, 0, 0), (.getfield 22, 10, 1, 0), (.aload_n 1, 0, 0, 0)] = true := by decide +kernel
theorem kJ5_inflateIfNeededFor_a7421_14 : gAt mJ5_inflateIfNeededFor_a7421 14 [(.if_icmp .eq 7, 21, 0, 0), (.aload_n 0, 0, 0, 0)] = true := by decide +kernel
theorem kJ5_inflateIfNeededFor_a7421_21 : gAt mJ5_inflateIfNeededFor_a7421 21 [(.return_, 0, 0, 0)] = true := by decide +kernel
abbrev mJ5_isLatin1_aae02 : gM := (13, yJ5_isLatin1_aae02, cJ5_isLatin1_aae02, 1, (some .boolean), [], none)
theorem kJ5_isLatin1_aae02_3 : gAt mJ5_isLatin1_aae02 3 [(.ifCond .eq 14, 17, 0, 0), (.aload_n 0, 0, 0, 0), (.getfield 22, 10, 1, 0), (.ifCond .ne 7, 17, 0, 0), (.iconst 1, 0, 0, 0), (.goto 4, 18, 0, 0)] = true := by decide +kernel
theorem kJ5_isLatin1_aae02_17 : gAt mJ5_isLatin1_aae02 17 [(.iconst 0, 0, 0, 0)] = true := by decide +kernel
theorem kJ5_isLatin1_aae02_18 : gAt mJ5_isLatin1_aae02 18 [(.ireturn, 0, 0, 0)] = true := by decide +kernel
abbrev mJ5_length_8abf5 : gM := (13, yJ5_length_8abf5, cJ5_length_8abf5, 1, (some .int), [], none)
theorem kJ5_length_8abf5_0 : gAt mJ5_length_8abf5 0 [(.aload_n 0, 0, 0, 0), (.getfield 79, 10, 3, 0), (.ireturn, 0, 0, 0)] = true := by decide +kernel
abbrev mJ5_newCapacity_0f7a4 : gM := (13, yJ5_newCapacity_0f7a4, cJ5_newCapacity_0f7a4, 6, (some .int), [], none)
theorem kJ5_newCapacity_0f7a4_0 : gAt mJ5_newCapacity_0f7a4 0 [(.aload_n 0, 0, 0, 0), (.getfield 15, 10, 0, 0)] = true := by decide +kernel
theorem kJ5_newCapacity_0f7a4_5 : gAt mJ5_newCapacity_0f7a4 5 [(.istore_n 2, 0, 0, 0), (.iload_n 1, 0, 0, 0), (.aload_n 0, 0, 0, 0), (.getfield 22, 10, 1, 0), (.ishl, 0, 0, 0), (.istore_n 3, 0, 0, 0), (.iload_n 3, 0, 0, 0), (.iload_n 2, 0, 0, 0), (.isub, 0, 0, 0), (.istore 4, 0, 0, 0), (.iload_n 2, 0, 0, 0), (.iload 4, 0, 0, 0), (.iload_n 2, 0, 0, 0), (.iconst 2, 0, 0, 0), (.aload_n 0, 0, 0, 0), (.getfield 22, 10, 1, 0), (.ishl, 0, 0, 0), (.iadd, 0, 0, 0)] = true := by decide +kernel
theorem kJ5_newCapacity_0f7a4_32 : gAt mJ5_newCapacity_0f7a4 32 [(.istore 5, 0, 0, 0), (.iload 5, 0, 0, 0), (.ldc 39, 0, 5, 0), (.if_icmp .ne 13, 51, 0, 0)] = true := by decide +kernel
theorem kJ5_newCapacity_0f7a4_44 : gAt mJ5_newCapacity_0f7a4 44 [(.dup, 0, 0, 0)] = true := by decide +kernel
theorem kJ5_newCapacity_0f7a4_51 : gAt mJ5_newCapacity_0f7a4 51 [(.iload 5, 0, 0, 0), (.aload_n 0, 0, 0, 0), (.getfield 22, 10, 1, 0), (.ishr, 0, 0, 0), (.ireturn, 0, 0, 0)] = true := by decide +kernel
abbrev mJ5_putStringAt_47b60 : gM := (13, yJ5_putStringAt_47b60, cJ5_putStringAt_47b60, 3, none, [], none)
theorem kJ5_putStringAt_47b60_0 : gAt mJ5_putStringAt_47b60 0 [(.aload_n 0, 0, 0, 0), (.aload_n 2, 0, 0, 0)] = true := by decide +kernel
theorem kJ5_putStringAt_47b60_5 : gAt mJ5_putStringAt_47b60 5 [(.aload_n 2, 0, 0, 0), (.aload_n 0, 0, 0, 0), (.getfield 15, 10, 0, 0), (.iload_n 1, 0, 0, 0), (.aload_n 0, 0, 0, 0), (.getfield 22, 10, 1, 0)] = true := by decide +kernel
theorem kJ5_putStringAt_47b60_18 : gAt mJ5_putStringAt_47b60 18 [(.return_, 0, 0, 0)] = true := by decide +kernel
