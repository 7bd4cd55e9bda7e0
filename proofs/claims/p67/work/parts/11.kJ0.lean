abbrev mJ0_init_db425 : gM := (9, yJ0_init_db425, cJ0_init_db425, 5, none, [], none)
theorem kJ0_init_db425_0 : gAt mJ0_init_db425 0 [(.aload_n 0, 0, 0, 0)] = true := by decide +kernel
theorem kJ0_init_db425_4 : gAt mJ0_init_db425 4 [(.aload_n 1, 0, 0, 0)] = true := by decide +kernel
theorem kJ0_init_db425_8 : gAt mJ0_init_db425 8 [(.astore_n 3, 0, 0, 0), (.aload_n 1, 0, 0, 0)] = true := by decide +kernel
theorem kJ0_init_db425_13 : gAt mJ0_init_db425 13 [(.istore 4, 0, 0, 0), (.aload_n 1, 0, 0, 0)] = true := by decide +kernel
theorem kJ0_init_db425_19 : gAt mJ0_init_db425 19 [(.ifCond .eq 22, 41, 0, 0), (.aload_n 0, 0, 0, 0), (.iconst 0, 0, 0, 0)] = true := by decide +kernel
theorem kJ0_init_db425_27 : gAt mJ0_init_db425 27 [(.aload_n 0, 0, 0, 0), (.aload_n 3, 0, 0, 0), (.iconst 0, 0, 0, 0), (.iload 4, 0, 0, 0)] = true := by decide +kernel
theorem kJ0_init_db425_35 : gAt mJ0_init_db425 35 [(.putfield 9, 9, 0, 2), (.goto 59, 97, 0, 0)] = true := by decide +kernel
theorem kJ0_init_db425_44 : gAt mJ0_init_db425 44 [(.ifCond .eq 35, 79, 0, 0), (.aload_n 1, 0, 0, 0), (.getfield 1048, 10, 2, 0), (.ifCond .eq 28, 79, 0, 0), (.aload_n 0, 0, 0, 0), (.aload_n 3, 0, 0, 0), (.iconst 0, 0, 0, 0), (.iload 4, 0, 0, 0)] = true := by decide +kernel
theorem kJ0_init_db425_62 : gAt mJ0_init_db425 62 [(.putfield 9, 9, 0, 2), (.aload_n 0, 0, 0, 0), (.aload_n 0, 0, 0, 0), (.getfield 9, 9, 0, 0), (.iload 4, 0, 0, 0)] = true := by decide +kernel
theorem kJ0_init_db425_78 : gAt mJ0_init_db425 78 [(.return_, 0, 0, 0)] = true := by decide +kernel
theorem kJ0_init_db425_79 : gAt mJ0_init_db425 79 [(.aload_n 0, 0, 0, 0), (.iconst 1, 0, 0, 0)] = true := by decide +kernel
theorem kJ0_init_db425_84 : gAt mJ0_init_db425 84 [(.aload_n 0, 0, 0, 0), (.aload_n 3, 0, 0, 0), (.iconst 0, 0, 0, 0), (.iload 4, 0, 0, 0), (.iconst 1, 0, 0, 0), (.ishl, 0, 0, 0)] = true := by decide +kernel
theorem kJ0_init_db425_94 : gAt mJ0_init_db425 94 [(.putfield 9, 9, 0, 2)] = true := by decide +kernel
theorem kJ0_init_db425_97 : gAt mJ0_init_db425 97 [(.return_, 0, 0, 0)] = true := by decide +kernel
abbrev mJ0_init_81219 : gM := (9, yJ0_init_81219, cJ0_init_81219, 2, none, [], none)
theorem kJ0_init_81219_0 : gAt mJ0_init_81219 0 [(.aload_n 0, 0, 0, 0), (.aload_n 1, 0, 0, 0)] = true := by decide +kernel
theorem kJ0_init_81219_6 : gAt mJ0_init_81219 6 [(.return_, 0, 0, 0)] = true := by decide +kernel
abbrev mJ0_charAt_5068e : gM := (9, yJ0_charAt_5068e, cJ0_charAt_5068e, 2, (some .char), [], none)
theorem kJ0_charAt_5068e_0 : gAt mJ0_charAt_5068e 0 [(.aload_n 0, 0, 0, 0)] = true := by decide +kernel
theorem kJ0_charAt_5068e_4 : gAt mJ0_charAt_5068e 4 [(.ifCond .eq 12, 16, 0, 0), (.aload_n 0, 0, 0, 0), (.getfield 9, 9, 0, 0), (.iload_n 1, 0, 0, 0)] = true := by decide +kernel
theorem kJ0_charAt_5068e_16 : gAt mJ0_charAt_5068e 16 [(.aload_n 0, 0, 0, 0), (.getfield 9, 9, 0, 0), (.iload_n 1, 0, 0, 0)] = true := by decide +kernel
abbrev mJ0_checkBoundsBeginEnd_23922 : gM := (9, yJ0_checkBoundsBeginEnd_23922, cJ0_checkBoundsBeginEnd_23922, 3, none, [], none)
theorem kJ0_checkBoundsBeginEnd_23922_0 : gAt mJ0_checkBoundsBeginEnd_23922 0 [(.iload_n 0, 0, 0, 0), (.iload_n 1, 0, 0, 0), (.iload_n 2, 0, 0, 0)] = true := by decide +kernel
theorem kJ0_checkBoundsBeginEnd_23922_9 : gAt mJ0_checkBoundsBeginEnd_23922 9 [(.pop, 0, 0, 0), (.return_, 0, 0, 0)] = true := by decide +kernel
abbrev mJ0_checkBoundsOffCount_cabcc : gM := (9, yJ0_checkBoundsOffCount_cabcc, cJ0_checkBoundsOffCount_cabcc, 3, (some .int), [], none)
theorem kJ0_checkBoundsOffCount_cabcc_0 : gAt mJ0_checkBoundsOffCount_cabcc 0 [(.iload_n 0, 0, 0, 0), (.iload_n 1, 0, 0, 0), (.iload_n 2, 0, 0, 0)] = true := by decide +kernel
theorem kJ0_checkBoundsOffCount_cabcc_9 : gAt mJ0_checkBoundsOffCount_cabcc 9 [(.ireturn, 0, 0, 0)] = true := by decide +kernel
abbrev mJ0_checkIndex_df160 : gM := (9, yJ0_checkIndex_df160, cJ0_checkIndex_df160, 2, none, [], none)
theorem kJ0_checkIndex_df160_0 : gAt mJ0_checkIndex_df160 0 [(.iload_n 0, 0, 0, 0), (.iload_n 1, 0, 0, 0)] = true := by decide +kernel
theorem kJ0_checkIndex_df160_8 : gAt mJ0_checkIndex_df160 8 [(.pop, 0, 0, 0), (.return_, 0, 0, 0)] = true := by decide +kernel
abbrev mJ0_coder_7d493 : gM := (9, yJ0_coder_7d493, cJ0_coder_7d493, 1, (some .byte), [], none)
theorem kJ0_coder_7d493_3 : gAt mJ0_coder_7d493 3 [(.ifCond .eq 10, 13, 0, 0), (.aload_n 0, 0, 0, 0), (.getfield 15, 9, 1, 0), (.goto 4, 14, 0, 0)] = true := by decide +kernel
theorem kJ0_coder_7d493_13 : gAt mJ0_coder_7d493 13 [(.iconst 1, 0, 0, 0)] = true := by decide +kernel
abbrev mJ0_getBytes_840e7 : gM := (9, yJ0_getBytes_840e7, cJ0_getBytes_840e7, 4, none, [], none)
theorem kJ0_getBytes_840e7_0 : gAt mJ0_getBytes_840e7 0 [(.aload_n 0, 0, 0, 0)] = true := by decide +kernel
theorem kJ0_getBytes_840e7_4 : gAt mJ0_getBytes_840e7 4 [(.iload_n 3, 0, 0, 0), (.if_icmp .ne 23, 28, 0, 0), (.aload_n 0, 0, 0, 0), (.getfield 9, 9, 0, 0), (.iconst 0, 0, 0, 0), (.aload_n 1, 0, 0, 0), (.iload_n 2, 0, 0, 0), (.iload_n 3, 0, 0, 0), (.ishl, 0, 0, 0), (.aload_n 0, 0, 0, 0), (.getfield 9, 9, 0, 0)] = true := by decide +kernel
theorem kJ0_getBytes_840e7_25 : gAt mJ0_getBytes_840e7 25 [(.goto 18, 43, 0, 0)] = true := by decide +kernel
theorem kJ0_getBytes_840e7_28 : gAt mJ0_getBytes_840e7 28 [(.aload_n 0, 0, 0, 0), (.getfield 9, 9, 0, 0), (.iconst 0, 0, 0, 0), (.aload_n 1, 0, 0, 0), (.iload_n 2, 0, 0, 0), (.aload_n 0, 0, 0, 0), (.getfield 9, 9, 0, 0)] = true := by decide +kernel
theorem kJ0_getBytes_840e7_43 : gAt mJ0_getBytes_840e7 43 [(.return_, 0, 0, 0)] = true := by decide +kernel
abbrev mJ0_isLatin1_aae02 : gM := (9, yJ0_isLatin1_aae02, cJ0_isLatin1_aae02, 1, (some .boolean), [], none)
theorem kJ0_isLatin1_aae02_3 : gAt mJ0_isLatin1_aae02 3 [(.ifCond .eq 14, 17, 0, 0), (.aload_n 0, 0, 0, 0), (.getfield 15, 9, 1, 0), (.ifCond .ne 7, 17, 0, 0), (.iconst 1, 0, 0, 0), (.goto 4, 18, 0, 0)] = true := by decide +kernel
theorem kJ0_isLatin1_aae02_17 : gAt mJ0_isLatin1_aae02 17 [(.iconst 0, 0, 0, 0)] = true := by decide +kernel
theorem kJ0_isLatin1_aae02_18 : gAt mJ0_isLatin1_aae02 18 [(.ireturn, 0, 0, 0)] = true := by decide +kernel
abbrev mJ0_length_8abf5 : gM := (9, yJ0_length_8abf5, cJ0_length_8abf5, 1, (some .int), [], none)
theorem kJ0_length_8abf5_0 : gAt mJ0_length_8abf5 0 [(.aload_n 0, 0, 0, 0), (.getfield 9, 9, 0, 0)] = true := by decide +kernel
theorem kJ0_length_8abf5_5 : gAt mJ0_length_8abf5 5 [(.aload_n 0, 0, 0, 0)] = true := by decide +kernel
theorem kJ0_length_8abf5_9 : gAt mJ0_length_8abf5 9 [(.ishr, 0, 0, 0), (.ireturn, 0, 0, 0)] = true := by decide +kernel
