abbrev m5_init : gM := (5, yX5_init, cX5_init, 1, none, [], none)
theorem k5_init_0 : gAt m5_init 0 [(.aload_n 0, 0, 0, 0)] = true := by decide +kernel
theorem k5_init_4 : gAt m5_init 4 [(.aload_n 0, 0, 0, 0), (.iconst (-1), 0, 0, 0), (.putfield 9, 5, 2, 0), (.aload_n 0, 0, 0, 0), (.sipush 600, 0, 0, 0)] = true := by decide +kernel
theorem k5_init_15 : gAt m5_init 15 [(.putfield 15, 5, 3, 2), (.aload_n 0, 0, 0, 0), (.iconst 4, 0, 0, 0)] = true := by decide +kernel
theorem k5_init_22 : gAt m5_init 22 [(.putfield 19, 5, 9, 2), (.return_, 0, 0, 0)] = true := by decide +kernel
abbrev m5_empty : gM := (5, yX5_empty, cX5_empty, 1, none, [], none)
theorem k5_empty_0 : gAt m5_empty 0 [(.aload_n 0, 0, 0, 0), (.iconst 0, 0, 0, 0), (.putfield 23, 5, 0, 0), (.return_, 0, 0, 0)] = true := by decide +kernel
abbrev m5_put : gM := (5, yX5_put, cX5_put, 2, none, [], none)
theorem k5_put_0 : gAt m5_put 0 [(.aload_n 0, 0, 0, 0), (.getfield 23, 5, 0, 0), (.sipush 600, 0, 0, 0), (.if_icmp .ge 24, 31, 0, 0), (.aload_n 0, 0, 0, 0), (.getfield 15, 5, 3, 0), (.aload_n 0, 0, 0, 0), (.getfield 23, 5, 0, 0), (.iload_n 1, 0, 0, 0), (.i2b, 0, 0, 0), (.bastore, 0, 0, 0), (.aload_n 0, 0, 0, 0), (.dup, 0, 0, 0), (.getfield 23, 5, 0, 0), (.iconst 1, 0, 0, 0), (.iadd, 0, 0, 0), (.putfield 23, 5, 0, 0)] = true := by decide +kernel
theorem k5_put_31 : gAt m5_put 31 [(.return_, 0, 0, 0)] = true := by decide +kernel
abbrev m5_putFour : gM := (5, yX5_putFour, cX5_putFour, 3, none, [], none)
theorem k5_putFour_0 : gAt m5_putFour 0 [(.bipush 24, 0, 0, 0), (.istore_n 2, 0, 0, 0)] = true := by decide +kernel
theorem k5_putFour_3 : gAt m5_putFour 3 [(.iload_n 2, 0, 0, 0), (.ifCond .lt 16, 20, 0, 0), (.aload_n 0, 0, 0, 0), (.iload_n 1, 0, 0, 0), (.iload_n 2, 0, 0, 0), (.ishr, 0, 0, 0)] = true := by decide +kernel
theorem k5_putFour_14 : gAt m5_putFour 14 [(.iinc 2 (-8), 0, 0, 0), (.goto (-14), 3, 0, 0)] = true := by decide +kernel
theorem k5_putFour_20 : gAt m5_putFour 20 [(.return_, 0, 0, 0)] = true := by decide +kernel
abbrev m5_putAll : gM := (5, yX5_putAll, cX5_putAll, 3, none, [], none)
theorem k5_putAll_0 : gAt m5_putAll 0 [(.iconst 0, 0, 0, 0), (.istore_n 2, 0, 0, 0)] = true := by decide +kernel
theorem k5_putAll_2 : gAt m5_putAll 2 [(.iload_n 2, 0, 0, 0), (.aload_n 1, 0, 0, 0)] = true := by decide +kernel
theorem k5_putAll_7 : gAt m5_putAll 7 [(.if_icmp .ge 18, 25, 0, 0), (.aload_n 0, 0, 0, 0), (.aload_n 1, 0, 0, 0), (.iload_n 2, 0, 0, 0)] = true := by decide +kernel
theorem k5_putAll_19 : gAt m5_putAll 19 [(.iinc 2 1, 0, 0, 0), (.goto (-20), 2, 0, 0)] = true := by decide +kernel
theorem k5_putAll_25 : gAt m5_putAll 25 [(.return_, 0, 0, 0)] = true := by decide +kernel
abbrev m5_read : gM := (5, yX5_read, cX5_read, 4, (some .boolean), [], none)
theorem k5_read_0 : gAt m5_read 0 [(.aload_n 0, 0, 0, 0), (.iconst 0, 0, 0, 0), (.putfield 39, 5, 1, 0), (.aload_n 0, 0, 0, 0), (.iconst (-1), 0, 0, 0), (.putfield 9, 5, 2, 0), (.aload_n 0, 0, 0, 0), (.iconst 0, 0, 0, 0), (.putfield 42, 5, 6, 0), (.aload_n 1, 0, 0, 0)] = true := by decide +kernel
theorem k5_read_19 : gAt m5_read 19 [(.iconst 0, 0, 0, 0), (.istore_n 3, 0, 0, 0)] = true := by decide +kernel
theorem k5_read_21 : gAt m5_read 21 [(.iload_n 3, 0, 0, 0), (.sipush 600, 0, 0, 0), (.if_icmp .gt 51, 76, 0, 0), (.aload_n 0, 0, 0, 0)] = true := by decide +kernel
theorem k5_read_32 : gAt m5_read 32 [(.iload_n 3, 0, 0, 0), (.ifCond .le 12, 45, 0, 0), (.aload_n 0, 0, 0, 0), (.getfield 53, 5, 4, 0), (.ifCond .ne 5, 45, 0, 0), (.iconst 1, 0, 0, 0), (.ireturn, 0, 0, 0)] = true := by decide +kernel
theorem k5_read_45 : gAt m5_read 45 [(.aload_n 0, 0, 0, 0), (.aload_n 1, 0, 0, 0), (.iload_n 3, 0, 0, 0), (.ifCond .ne 7, 55, 0, 0), (.iconst 1, 0, 0, 0), (.goto 4, 56, 0, 0)] = true := by decide +kernel
theorem k5_read_55 : gAt m5_read 55 [(.iconst 0, 0, 0, 0)] = true := by decide +kernel
theorem k5_read_59 : gAt m5_read 59 [(.ifCond .ne 5, 64, 0, 0), (.iconst 0, 0, 0, 0), (.ireturn, 0, 0, 0)] = true := by decide +kernel
theorem k5_read_64 : gAt m5_read 64 [(.aload_n 0, 0, 0, 0), (.aload_n 1, 0, 0, 0), (.aload_n 2, 0, 0, 0)] = true := by decide +kernel
theorem k5_read_70 : gAt m5_read 70 [(.iinc 3 1, 0, 0, 0), (.goto (-52), 21, 0, 0)] = true := by decide +kernel
theorem k5_read_76 : gAt m5_read 76 [(.iconst 0, 0, 0, 0), (.ireturn, 0, 0, 0)] = true := by decide +kernel
abbrev m5_fail : gM := (5, yX5_fail, cX5_fail, 2, (some .boolean), [], none)
theorem k5_fail_0 : gAt m5_fail 0 [(.aload_n 0, 0, 0, 0), (.iload_n 1, 0, 0, 0), (.putfield 39, 5, 1, 0), (.aload_n 0, 0, 0, 0), (.aload_n 0, 0, 0, 0), (.getfield 64, 5, 5, 0), (.putfield 9, 5, 2, 0), (.iconst 0, 0, 0, 0), (.ireturn, 0, 0, 0)] = true := by decide +kernel
abbrev m5_nextToken : gM := (5, yX5_nextToken, cX5_nextToken, 2, none, [], none)
theorem k5_nextToken_0 : gAt m5_nextToken 0 [(.aload_n 0, 0, 0, 0), (.getfield 42, 5, 6, 0), (.istore_n 1, 0, 0, 0)] = true := by decide +kernel
theorem k5_nextToken_5 : gAt m5_nextToken 5 [(.iload_n 1, 0, 0, 0), (.aload_n 0, 0, 0, 0), (.getfield 23, 5, 0, 0), (.if_icmp .ge 31, 41, 0, 0), (.aload_n 0, 0, 0, 0), (.getfield 15, 5, 3, 0), (.iload_n 1, 0, 0, 0), (.baload, 0, 0, 0), (.bipush 32, 0, 0, 0), (.if_icmp .eq 14, 35, 0, 0), (.aload_n 0, 0, 0, 0), (.getfield 15, 5, 3, 0), (.iload_n 1, 0, 0, 0), (.baload, 0, 0, 0), (.bipush 10, 0, 0, 0), (.if_icmp .ne 9, 41, 0, 0)] = true := by decide +kernel
theorem k5_nextToken_35 : gAt m5_nextToken 35 [(.iinc 1 1, 0, 0, 0), (.goto (-33), 5, 0, 0)] = true := by decide +kernel
theorem k5_nextToken_41 : gAt m5_nextToken 41 [(.aload_n 0, 0, 0, 0), (.iload_n 1, 0, 0, 0), (.putfield 64, 5, 5, 0), (.aload_n 0, 0, 0, 0), (.iload_n 1, 0, 0, 0), (.aload_n 0, 0, 0, 0), (.getfield 23, 5, 0, 0), (.if_icmp .ge 16, 68, 0, 0), (.aload_n 0, 0, 0, 0), (.aload_n 0, 0, 0, 0), (.getfield 15, 5, 3, 0), (.iload_n 1, 0, 0, 0), (.baload, 0, 0, 0)] = true := by decide +kernel
theorem k5_nextToken_65 : gAt m5_nextToken 65 [(.goto 4, 69, 0, 0)] = true := by decide +kernel
theorem k5_nextToken_68 : gAt m5_nextToken 68 [(.iconst 0, 0, 0, 0)] = true := by decide +kernel
theorem k5_nextToken_69 : gAt m5_nextToken 69 [(.putfield 53, 5, 4, 0), (.aload_n 0, 0, 0, 0), (.iconst 0, 0, 0, 0), (.putfield 71, 5, 7, 0), (.aload_n 0, 0, 0, 0), (.getfield 53, 5, 4, 0), (.iconst 1, 0, 0, 0), (.if_icmp .ne 31, 113, 0, 0)] = true := by decide +kernel
theorem k5_nextToken_85 : gAt m5_nextToken 85 [(.iload_n 1, 0, 0, 0), (.aload_n 0, 0, 0, 0), (.getfield 23, 5, 0, 0), (.if_icmp .ge 95, 185, 0, 0), (.aload_n 0, 0, 0, 0), (.aload_n 0, 0, 0, 0), (.getfield 15, 5, 3, 0), (.iload_n 1, 0, 0, 0), (.baload, 0, 0, 0)] = true := by decide +kernel
theorem k5_nextToken_103 : gAt m5_nextToken 103 [(.iconst 1, 0, 0, 0), (.if_icmp .ne 81, 185, 0, 0), (.iinc 1 1, 0, 0, 0), (.goto (-25), 85, 0, 0)] = true := by decide +kernel
theorem k5_nextToken_113 : gAt m5_nextToken 113 [(.aload_n 0, 0, 0, 0), (.getfield 53, 5, 4, 0), (.iconst 2, 0, 0, 0), (.if_icmp .ne 57, 175, 0, 0)] = true := by decide +kernel
theorem k5_nextToken_121 : gAt m5_nextToken 121 [(.iload_n 1, 0, 0, 0), (.aload_n 0, 0, 0, 0), (.getfield 23, 5, 0, 0), (.if_icmp .ge 59, 185, 0, 0), (.aload_n 0, 0, 0, 0), (.aload_n 0, 0, 0, 0), (.getfield 15, 5, 3, 0), (.iload_n 1, 0, 0, 0), (.baload, 0, 0, 0)] = true := by decide +kernel
theorem k5_nextToken_139 : gAt m5_nextToken 139 [(.iconst 2, 0, 0, 0), (.if_icmp .ne 45, 185, 0, 0), (.aload_n 0, 0, 0, 0), (.ldc 74, 0, 0, 0), (.aload_n 0, 0, 0, 0), (.getfield 71, 5, 7, 0), (.bipush 10, 0, 0, 0), (.imul, 0, 0, 0), (.aload_n 0, 0, 0, 0), (.getfield 15, 5, 3, 0), (.iload_n 1, 0, 0, 0), (.baload, 0, 0, 0), (.iadd, 0, 0, 0), (.bipush 48, 0, 0, 0), (.isub, 0, 0, 0)] = true := by decide +kernel
theorem k5_nextToken_166 : gAt m5_nextToken 166 [(.putfield 71, 5, 7, 0), (.iinc 1 1, 0, 0, 0), (.goto (-51), 121, 0, 0)] = true := by decide +kernel
theorem k5_nextToken_175 : gAt m5_nextToken 175 [(.aload_n 0, 0, 0, 0), (.getfield 53, 5, 4, 0), (.ifCond .eq 6, 185, 0, 0), (.iinc 1 1, 0, 0, 0)] = true := by decide +kernel
theorem k5_nextToken_185 : gAt m5_nextToken 185 [(.aload_n 0, 0, 0, 0), (.iload_n 1, 0, 0, 0), (.putfield 42, 5, 6, 0), (.return_, 0, 0, 0)] = true := by decide +kernel
abbrev m5_kindOf : gM := (5, yX5_kindOf, cX5_kindOf, 2, (some .int), [], none)
theorem k5_kindOf_0 : gAt m5_kindOf 0 [(.iload_n 1, 0, 0, 0), (.bipush 97, 0, 0, 0), (.if_icmp .lt 11, 14, 0, 0), (.iload_n 1, 0, 0, 0), (.bipush 122, 0, 0, 0), (.if_icmp .gt 5, 14, 0, 0), (.iconst 1, 0, 0, 0), (.ireturn, 0, 0, 0)] = true := by decide +kernel
theorem k5_kindOf_14 : gAt m5_kindOf 14 [(.iload_n 1, 0, 0, 0), (.bipush 48, 0, 0, 0), (.if_icmp .lt 11, 28, 0, 0), (.iload_n 1, 0, 0, 0), (.bipush 57, 0, 0, 0), (.if_icmp .gt 5, 28, 0, 0), (.iconst 2, 0, 0, 0), (.ireturn, 0, 0, 0)] = true := by decide +kernel
theorem k5_kindOf_28 : gAt m5_kindOf 28 [(.iload_n 1, 0, 0, 0), (.bipush 59, 0, 0, 0), (.if_icmp .ne 7, 38, 0, 0), (.iconst 3, 0, 0, 0), (.goto 4, 39, 0, 0)] = true := by decide +kernel
theorem k5_kindOf_38 : gAt m5_kindOf 38 [(.iconst 4, 0, 0, 0)] = true := by decide +kernel
theorem k5_kindOf_39 : gAt m5_kindOf 39 [(.ireturn, 0, 0, 0)] = true := by decide +kernel
abbrev m5_isWord : gM := (5, yX5_isWord, cX5_isWord, 3, (some .boolean), [], none)
theorem k5_isWord_0 : gAt m5_isWord 0 [(.aload_n 0, 0, 0, 0), (.getfield 53, 5, 4, 0), (.iconst 1, 0, 0, 0), (.if_icmp .ne 19, 24, 0, 0), (.aload_n 1, 0, 0, 0)] = true := by decide +kernel
theorem k5_isWord_12 : gAt m5_isWord 12 [(.aload_n 0, 0, 0, 0), (.getfield 42, 5, 6, 0), (.aload_n 0, 0, 0, 0), (.getfield 64, 5, 5, 0), (.isub, 0, 0, 0), (.if_icmp .eq 5, 26, 0, 0)] = true := by decide +kernel
theorem k5_isWord_24 : gAt m5_isWord 24 [(.iconst 0, 0, 0, 0), (.ireturn, 0, 0, 0)] = true := by decide +kernel
theorem k5_isWord_26 : gAt m5_isWord 26 [(.iconst 0, 0, 0, 0), (.istore_n 2, 0, 0, 0)] = true := by decide +kernel
theorem k5_isWord_28 : gAt m5_isWord 28 [(.iload_n 2, 0, 0, 0), (.aload_n 1, 0, 0, 0)] = true := by decide +kernel
theorem k5_isWord_33 : gAt m5_isWord 33 [(.if_icmp .ge 43, 76, 0, 0), (.aload_n 0, 0, 0, 0), (.getfield 64, 5, 5, 0), (.iload_n 2, 0, 0, 0), (.iadd, 0, 0, 0), (.aload_n 0, 0, 0, 0), (.getfield 23, 5, 0, 0), (.if_icmp .ge 30, 76, 0, 0), (.aload_n 1, 0, 0, 0), (.iload_n 2, 0, 0, 0)] = true := by decide +kernel
theorem k5_isWord_54 : gAt m5_isWord 54 [(.aload_n 0, 0, 0, 0), (.getfield 15, 5, 3, 0), (.aload_n 0, 0, 0, 0), (.getfield 64, 5, 5, 0), (.iload_n 2, 0, 0, 0), (.iadd, 0, 0, 0), (.baload, 0, 0, 0), (.if_icmp .eq 5, 70, 0, 0), (.iconst 0, 0, 0, 0), (.ireturn, 0, 0, 0)] = true := by decide +kernel
theorem k5_isWord_70 : gAt m5_isWord 70 [(.iinc 2 1, 0, 0, 0), (.goto (-45), 28, 0, 0)] = true := by decide +kernel
theorem k5_isWord_76 : gAt m5_isWord 76 [(.iconst 1, 0, 0, 0), (.ireturn, 0, 0, 0)] = true := by decide +kernel
abbrev m5_statementWord : gM := (5, yX5_statementWord, cX5_statementWord, 1, (some .int), [], none)
theorem k5_statementWord_0 : gAt m5_statementWord 0 [(.aload_n 0, 0, 0, 0), (.ldc 81, 1, 3, 0)] = true := by decide +kernel
theorem k5_statementWord_6 : gAt m5_statementWord 6 [(.ifCond .eq 5, 11, 0, 0), (.iconst 0, 0, 0, 0), (.ireturn, 0, 0, 0)] = true := by decide +kernel
theorem k5_statementWord_11 : gAt m5_statementWord 11 [(.aload_n 0, 0, 0, 0), (.ldc 87, 1, 4, 0)] = true := by decide +kernel
theorem k5_statementWord_17 : gAt m5_statementWord 17 [(.ifCond .eq 5, 22, 0, 0), (.iconst 1, 0, 0, 0), (.ireturn, 0, 0, 0)] = true := by decide +kernel
theorem k5_statementWord_22 : gAt m5_statementWord 22 [(.aload_n 0, 0, 0, 0), (.ldc 89, 1, 5, 0)] = true := by decide +kernel
theorem k5_statementWord_28 : gAt m5_statementWord 28 [(.ifCond .eq 5, 33, 0, 0), (.iconst 2, 0, 0, 0), (.ireturn, 0, 0, 0)] = true := by decide +kernel
theorem k5_statementWord_33 : gAt m5_statementWord 33 [(.aload_n 0, 0, 0, 0), (.ldc 91, 1, 6, 0)] = true := by decide +kernel
theorem k5_statementWord_39 : gAt m5_statementWord 39 [(.ifCond .eq 5, 44, 0, 0), (.iconst 3, 0, 0, 0), (.ireturn, 0, 0, 0)] = true := by decide +kernel
theorem k5_statementWord_44 : gAt m5_statementWord 44 [(.aload_n 0, 0, 0, 0), (.ldc 93, 1, 7, 0)] = true := by decide +kernel
theorem k5_statementWord_50 : gAt m5_statementWord 50 [(.ifCond .eq 5, 55, 0, 0), (.iconst 4, 0, 0, 0), (.ireturn, 0, 0, 0)] = true := by decide +kernel
theorem k5_statementWord_55 : gAt m5_statementWord 55 [(.aload_n 0, 0, 0, 0), (.ldc 95, 1, 8, 0)] = true := by decide +kernel
theorem k5_statementWord_61 : gAt m5_statementWord 61 [(.ifCond .eq 5, 66, 0, 0), (.iconst 5, 0, 0, 0), (.ireturn, 0, 0, 0)] = true := by decide +kernel
theorem k5_statementWord_66 : gAt m5_statementWord 66 [(.aload_n 0, 0, 0, 0), (.ldc 97, 1, 9, 0)] = true := by decide +kernel
theorem k5_statementWord_72 : gAt m5_statementWord 72 [(.ifCond .eq 6, 78, 0, 0), (.bipush 6, 0, 0, 0), (.ireturn, 0, 0, 0)] = true := by decide +kernel
theorem k5_statementWord_78 : gAt m5_statementWord 78 [(.aload_n 0, 0, 0, 0), (.ldc 99, 1, 10, 0)] = true := by decide +kernel
theorem k5_statementWord_84 : gAt m5_statementWord 84 [(.ifCond .eq 6, 90, 0, 0), (.bipush 7, 0, 0, 0), (.ireturn, 0, 0, 0)] = true := by decide +kernel
theorem k5_statementWord_90 : gAt m5_statementWord 90 [(.aload_n 0, 0, 0, 0), (.ldc 100, 1, 11, 0)] = true := by decide +kernel
theorem k5_statementWord_96 : gAt m5_statementWord 96 [(.ifCond .eq 6, 102, 0, 0), (.bipush 8, 0, 0, 0), (.ireturn, 0, 0, 0)] = true := by decide +kernel
theorem k5_statementWord_102 : gAt m5_statementWord 102 [(.aload_n 0, 0, 0, 0)] = true := by decide +kernel
theorem k5_statementWord_106 : gAt m5_statementWord 106 [(.ireturn, 0, 0, 0)] = true := by decide +kernel
abbrev m5_settingWord : gM := (5, yX5_settingWord, cX5_settingWord, 1, (some .int), [], none)
theorem k5_settingWord_0 : gAt m5_settingWord 0 [(.aload_n 0, 0, 0, 0), (.ldc 105, 1, 12, 0)] = true := by decide +kernel
theorem k5_settingWord_6 : gAt m5_settingWord 6 [(.ifCond .eq 6, 12, 0, 0), (.bipush 9, 0, 0, 0), (.ireturn, 0, 0, 0)] = true := by decide +kernel
theorem k5_settingWord_12 : gAt m5_settingWord 12 [(.aload_n 0, 0, 0, 0), (.ldc 107, 1, 13, 0)] = true := by decide +kernel
theorem k5_settingWord_18 : gAt m5_settingWord 18 [(.ifCond .eq 6, 24, 0, 0), (.bipush 10, 0, 0, 0), (.ireturn, 0, 0, 0)] = true := by decide +kernel
theorem k5_settingWord_24 : gAt m5_settingWord 24 [(.aload_n 0, 0, 0, 0), (.ldc 109, 1, 14, 0)] = true := by decide +kernel
theorem k5_settingWord_30 : gAt m5_settingWord 30 [(.ifCond .eq 6, 36, 0, 0), (.bipush 11, 0, 0, 0), (.ireturn, 0, 0, 0)] = true := by decide +kernel
theorem k5_settingWord_36 : gAt m5_settingWord 36 [(.aload_n 0, 0, 0, 0), (.ldc 111, 1, 15, 0)] = true := by decide +kernel
theorem k5_settingWord_42 : gAt m5_settingWord 42 [(.ifCond .eq 6, 48, 0, 0), (.bipush 12, 0, 0, 0), (.ireturn, 0, 0, 0)] = true := by decide +kernel
theorem k5_settingWord_48 : gAt m5_settingWord 48 [(.aload_n 0, 0, 0, 0), (.ldc 113, 1, 16, 0)] = true := by decide +kernel
theorem k5_settingWord_54 : gAt m5_settingWord 54 [(.ifCond .eq 8, 62, 0, 0), (.bipush 13, 0, 0, 0), (.goto 4, 63, 0, 0)] = true := by decide +kernel
theorem k5_settingWord_62 : gAt m5_settingWord 62 [(.iconst (-1), 0, 0, 0)] = true := by decide +kernel
theorem k5_settingWord_63 : gAt m5_settingWord 63 [(.ireturn, 0, 0, 0)] = true := by decide +kernel
abbrev m5_readStatement : gM := (5, yX5_readStatement, cX5_readStatement, 3, (some .boolean), [], none)
theorem k5_readStatement_0 : gAt m5_readStatement 0 [(.aload_n 0, 0, 0, 0), (.aload_n 0, 0, 0, 0)] = true := by decide +kernel
theorem k5_readStatement_5 : gAt m5_readStatement 5 [(.putfield 118, 5, 8, 0), (.aload_n 0, 0, 0, 0), (.getfield 118, 5, 8, 0), (.iconst (-1), 0, 0, 0), (.if_icmp .eq 19, 32, 0, 0), (.iload_n 2, 0, 0, 0), (.aload_n 0, 0, 0, 0), (.getfield 118, 5, 8, 0), (.ifCond .ne 7, 28, 0, 0), (.iconst 1, 0, 0, 0), (.goto 4, 29, 0, 0)] = true := by decide +kernel
theorem k5_readStatement_28 : gAt m5_readStatement 28 [(.iconst 0, 0, 0, 0)] = true := by decide +kernel
theorem k5_readStatement_29 : gAt m5_readStatement 29 [(.if_icmp .eq 9, 38, 0, 0)] = true := by decide +kernel
theorem k5_readStatement_32 : gAt m5_readStatement 32 [(.aload_n 0, 0, 0, 0), (.iconst 1, 0, 0, 0)] = true := by decide +kernel
theorem k5_readStatement_37 : gAt m5_readStatement 37 [(.ireturn, 0, 0, 0)] = true := by decide +kernel
theorem k5_readStatement_38 : gAt m5_readStatement 38 [(.aload_n 0, 0, 0, 0), (.getfield 118, 5, 8, 0), (.iconst 1, 0, 0, 0), (.if_icmp .ne 21, 64, 0, 0), (.aload_n 1, 0, 0, 0), (.getfield 125, 3, 5, 0), (.getfield 129, 7, 0, 0), (.bipush 8, 0, 0, 0), (.if_icmp .lt 9, 64, 0, 0), (.aload_n 0, 0, 0, 0), (.iconst 5, 0, 0, 0)] = true := by decide +kernel
theorem k5_readStatement_63 : gAt m5_readStatement 63 [(.ireturn, 0, 0, 0)] = true := by decide +kernel
theorem k5_readStatement_64 : gAt m5_readStatement 64 [(.aload_n 0, 0, 0, 0), (.getfield 118, 5, 8, 0), (.iconst 2, 0, 0, 0), (.if_icmp .eq 11, 80, 0, 0), (.aload_n 0, 0, 0, 0), (.getfield 118, 5, 8, 0), (.iconst 3, 0, 0, 0), (.if_icmp .ne 19, 96, 0, 0)] = true := by decide +kernel
theorem k5_readStatement_80 : gAt m5_readStatement 80 [(.aload_n 1, 0, 0, 0), (.getfield 134, 3, 6, 0)] = true := by decide +kernel
theorem k5_readStatement_87 : gAt m5_readStatement 87 [(.ifCond .eq 9, 96, 0, 0), (.aload_n 0, 0, 0, 0), (.iconst 5, 0, 0, 0)] = true := by decide +kernel
theorem k5_readStatement_95 : gAt m5_readStatement 95 [(.ireturn, 0, 0, 0)] = true := by decide +kernel
theorem k5_readStatement_96 : gAt m5_readStatement 96 [(.aload_n 0, 0, 0, 0), (.aload_n 1, 0, 0, 0)] = true := by decide +kernel
theorem k5_readStatement_101 : gAt m5_readStatement 101 [(.ifCond .ne 5, 106, 0, 0), (.iconst 0, 0, 0, 0), (.ireturn, 0, 0, 0)] = true := by decide +kernel
theorem k5_readStatement_106 : gAt m5_readStatement 106 [(.aload_n 0, 0, 0, 0)] = true := by decide +kernel
theorem k5_readStatement_110 : gAt m5_readStatement 110 [(.aload_n 0, 0, 0, 0), (.getfield 53, 5, 4, 0), (.iconst 3, 0, 0, 0), (.if_icmp .eq 11, 126, 0, 0), (.aload_n 0, 0, 0, 0), (.iconst 1, 0, 0, 0)] = true := by decide +kernel
theorem k5_readStatement_123 : gAt m5_readStatement 123 [(.ifCond .eq 7, 130, 0, 0)] = true := by decide +kernel
theorem k5_readStatement_126 : gAt m5_readStatement 126 [(.iconst 1, 0, 0, 0), (.goto 4, 131, 0, 0)] = true := by decide +kernel
theorem k5_readStatement_130 : gAt m5_readStatement 130 [(.iconst 0, 0, 0, 0)] = true := by decide +kernel
theorem k5_readStatement_131 : gAt m5_readStatement 131 [(.ireturn, 0, 0, 0)] = true := by decide +kernel
abbrev m5_readGiven : gM := (5, yX5_readGiven, cX5_readGiven, 2, (some .boolean), [], none)
theorem k5_readGiven_0 : gAt m5_readGiven 0 [(.aload_n 0, 0, 0, 0), (.getfield 118, 5, 8, 0)] = true := by decide +kernel
theorem k5_readGiven_72 : gAt m5_readGiven 72 [(.aload_n 0, 0, 0, 0), (.iconst 0, 0, 0, 0), (.iconst 1, 0, 0, 0), (.bipush 60, 0, 0, 0)] = true := by decide +kernel
theorem k5_readGiven_80 : gAt m5_readGiven 80 [(.ifCond .eq 39, 119, 0, 0), (.aload_n 0, 0, 0, 0), (.iconst 1, 0, 0, 0), (.iconst 1, 0, 0, 0), (.sipush 999, 0, 0, 0)] = true := by decide +kernel
theorem k5_readGiven_92 : gAt m5_readGiven 92 [(.ifCond .eq 27, 119, 0, 0), (.aload_n 0, 0, 0, 0), (.iconst 2, 0, 0, 0), (.iconst 0, 0, 0, 0), (.sipush 999, 0, 0, 0)] = true := by decide +kernel
theorem k5_readGiven_104 : gAt m5_readGiven 104 [(.ifCond .eq 15, 119, 0, 0), (.aload_n 0, 0, 0, 0), (.iconst 3, 0, 0, 0)] = true := by decide +kernel
theorem k5_readGiven_112 : gAt m5_readGiven 112 [(.ifCond .eq 7, 119, 0, 0), (.iconst 1, 0, 0, 0), (.goto 4, 120, 0, 0)] = true := by decide +kernel
theorem k5_readGiven_119 : gAt m5_readGiven 119 [(.iconst 0, 0, 0, 0)] = true := by decide +kernel
theorem k5_readGiven_120 : gAt m5_readGiven 120 [(.ireturn, 0, 0, 0)] = true := by decide +kernel
theorem k5_readGiven_121 : gAt m5_readGiven 121 [(.aload_n 0, 0, 0, 0), (.aload_n 1, 0, 0, 0), (.getfield 125, 3, 5, 0)] = true := by decide +kernel
theorem k5_readGiven_129 : gAt m5_readGiven 129 [(.ifCond .eq 30, 159, 0, 0), (.aload_n 0, 0, 0, 0), (.iconst 1, 0, 0, 0), (.iconst 0, 0, 0, 0), (.ldc 159, 0, 1, 0)] = true := by decide +kernel
theorem k5_readGiven_140 : gAt m5_readGiven 140 [(.ifCond .eq 19, 159, 0, 0), (.aload_n 0, 0, 0, 0), (.iconst 2, 0, 0, 0), (.iconst 0, 0, 0, 0), (.sipush 9999, 0, 0, 0)] = true := by decide +kernel
theorem k5_readGiven_152 : gAt m5_readGiven 152 [(.ifCond .eq 7, 159, 0, 0), (.iconst 1, 0, 0, 0), (.goto 4, 160, 0, 0)] = true := by decide +kernel
theorem k5_readGiven_159 : gAt m5_readGiven 159 [(.iconst 0, 0, 0, 0)] = true := by decide +kernel
theorem k5_readGiven_160 : gAt m5_readGiven 160 [(.ireturn, 0, 0, 0)] = true := by decide +kernel
theorem k5_readGiven_161 : gAt m5_readGiven 161 [(.aload_n 0, 0, 0, 0), (.iconst 0, 0, 0, 0), (.aload_n 1, 0, 0, 0), (.getfield 125, 3, 5, 0)] = true := by decide +kernel
theorem k5_readGiven_170 : gAt m5_readGiven 170 [(.ifCond .eq 80, 250, 0, 0), (.aload_n 0, 0, 0, 0), (.iconst 1, 0, 0, 0), (.iconst 1, 0, 0, 0), (.sipush 999, 0, 0, 0)] = true := by decide +kernel
theorem k5_readGiven_182 : gAt m5_readGiven 182 [(.ifCond .eq 68, 250, 0, 0), (.aload_n 0, 0, 0, 0), (.iconst 2, 0, 0, 0), (.iconst 1, 0, 0, 0), (.bipush 99, 0, 0, 0)] = true := by decide +kernel
theorem k5_readGiven_193 : gAt m5_readGiven 193 [(.ifCond .eq 57, 250, 0, 0), (.aload_n 1, 0, 0, 0), (.aload_n 0, 0, 0, 0), (.getfield 19, 5, 9, 0), (.iconst 0, 0, 0, 0), (.iaload, 0, 0, 0), (.aload_n 0, 0, 0, 0)] = true := by decide +kernel
theorem k5_readGiven_207 : gAt m5_readGiven 207 [(.aload_n 0, 0, 0, 0), (.getfield 19, 5, 9, 0), (.iconst 1, 0, 0, 0), (.iaload, 0, 0, 0), (.aload_n 0, 0, 0, 0), (.getfield 19, 5, 9, 0), (.iconst 2, 0, 0, 0), (.iaload, 0, 0, 0)] = true := by decide +kernel
theorem k5_readGiven_222 : gAt m5_readGiven 222 [(.ifCond .eq 12, 234, 0, 0), (.aload_n 0, 0, 0, 0), (.bipush 6, 0, 0, 0)] = true := by decide +kernel
theorem k5_readGiven_231 : gAt m5_readGiven 231 [(.ifCond .eq 19, 250, 0, 0)] = true := by decide +kernel
theorem k5_readGiven_234 : gAt m5_readGiven 234 [(.aload_n 0, 0, 0, 0), (.iconst 3, 0, 0, 0), (.iconst 0, 0, 0, 0), (.sipush 999, 0, 0, 0)] = true := by decide +kernel
theorem k5_readGiven_243 : gAt m5_readGiven 243 [(.ifCond .eq 7, 250, 0, 0), (.iconst 1, 0, 0, 0), (.goto 4, 251, 0, 0)] = true := by decide +kernel
theorem k5_readGiven_250 : gAt m5_readGiven 250 [(.iconst 0, 0, 0, 0)] = true := by decide +kernel
theorem k5_readGiven_251 : gAt m5_readGiven 251 [(.ireturn, 0, 0, 0)] = true := by decide +kernel
theorem k5_readGiven_252 : gAt m5_readGiven 252 [(.aload_n 0, 0, 0, 0), (.aload_n 1, 0, 0, 0), (.getfield 134, 3, 6, 0)] = true := by decide +kernel
theorem k5_readGiven_260 : gAt m5_readGiven 260 [(.ireturn, 0, 0, 0)] = true := by decide +kernel
theorem k5_readGiven_261 : gAt m5_readGiven 261 [(.aload_n 0, 0, 0, 0), (.aload_n 1, 0, 0, 0), (.getfield 134, 3, 6, 0)] = true := by decide +kernel
theorem k5_readGiven_269 : gAt m5_readGiven 269 [(.ifCond .eq 50, 319, 0, 0), (.aload_n 0, 0, 0, 0), (.iconst 1, 0, 0, 0), (.iconst 1, 0, 0, 0), (.bipush 99, 0, 0, 0)] = true := by decide +kernel
theorem k5_readGiven_280 : gAt m5_readGiven 280 [(.ifCond .eq 39, 319, 0, 0), (.aload_n 0, 0, 0, 0), (.getfield 19, 5, 9, 0), (.iconst 1, 0, 0, 0), (.iaload, 0, 0, 0), (.aload_n 1, 0, 0, 0), (.getfield 134, 3, 6, 0), (.getfield 175, 0, 6, 0), (.aload_n 0, 0, 0, 0), (.getfield 19, 5, 9, 0), (.iconst 0, 0, 0, 0), (.iaload, 0, 0, 0), (.iaload, 0, 0, 0), (.if_icmp .lt 12, 315, 0, 0), (.aload_n 0, 0, 0, 0), (.bipush 6, 0, 0, 0)] = true := by decide +kernel
theorem k5_readGiven_312 : gAt m5_readGiven 312 [(.ifCond .eq 7, 319, 0, 0)] = true := by decide +kernel
theorem k5_readGiven_315 : gAt m5_readGiven 315 [(.iconst 1, 0, 0, 0), (.goto 4, 320, 0, 0)] = true := by decide +kernel
theorem k5_readGiven_319 : gAt m5_readGiven 319 [(.iconst 0, 0, 0, 0)] = true := by decide +kernel
theorem k5_readGiven_320 : gAt m5_readGiven 320 [(.ireturn, 0, 0, 0)] = true := by decide +kernel
theorem k5_readGiven_321 : gAt m5_readGiven 321 [(.aload_n 0, 0, 0, 0), (.aload_n 1, 0, 0, 0), (.getfield 134, 3, 6, 0)] = true := by decide +kernel
theorem k5_readGiven_329 : gAt m5_readGiven 329 [(.ifCond .eq 19, 348, 0, 0), (.aload_n 0, 0, 0, 0), (.iconst 1, 0, 0, 0), (.iconst 0, 0, 0, 0), (.sipush 999, 0, 0, 0)] = true := by decide +kernel
theorem k5_readGiven_341 : gAt m5_readGiven 341 [(.ifCond .eq 7, 348, 0, 0), (.iconst 1, 0, 0, 0), (.goto 4, 349, 0, 0)] = true := by decide +kernel
theorem k5_readGiven_348 : gAt m5_readGiven 348 [(.iconst 0, 0, 0, 0)] = true := by decide +kernel
theorem k5_readGiven_349 : gAt m5_readGiven 349 [(.ireturn, 0, 0, 0)] = true := by decide +kernel
theorem k5_readGiven_350 : gAt m5_readGiven 350 [(.aload_n 0, 0, 0, 0), (.iconst 0, 0, 0, 0), (.aload_n 1, 0, 0, 0), (.getfield 125, 3, 5, 0)] = true := by decide +kernel
theorem k5_readGiven_359 : gAt m5_readGiven 359 [(.ireturn, 0, 0, 0)] = true := by decide +kernel
theorem k5_readGiven_360 : gAt m5_readGiven 360 [(.aload_n 0, 0, 0, 0), (.iconst 0, 0, 0, 0), (.aload_n 1, 0, 0, 0), (.getfield 125, 3, 5, 0)] = true := by decide +kernel
theorem k5_readGiven_369 : gAt m5_readGiven 369 [(.ifCond .eq 82, 451, 0, 0), (.aload_n 0, 0, 0, 0), (.iconst 1, 0, 0, 0), (.aload_n 1, 0, 0, 0), (.getfield 125, 3, 5, 0)] = true := by decide +kernel
theorem k5_readGiven_381 : gAt m5_readGiven 381 [(.ifCond .eq 70, 451, 0, 0), (.aload_n 0, 0, 0, 0), (.getfield 19, 5, 9, 0), (.iconst 1, 0, 0, 0), (.iaload, 0, 0, 0), (.aload_n 0, 0, 0, 0), (.getfield 19, 5, 9, 0), (.iconst 0, 0, 0, 0), (.iaload, 0, 0, 0), (.if_icmp .ne 11, 407, 0, 0), (.aload_n 0, 0, 0, 0), (.iconst 3, 0, 0, 0)] = true := by decide +kernel
theorem k5_readGiven_404 : gAt m5_readGiven 404 [(.ifCond .eq 47, 451, 0, 0)] = true := by decide +kernel
theorem k5_readGiven_407 : gAt m5_readGiven 407 [(.aload_n 0, 0, 0, 0), (.iconst 2, 0, 0, 0), (.iconst 1, 0, 0, 0), (.sipush 9999, 0, 0, 0)] = true := by decide +kernel
theorem k5_readGiven_416 : gAt m5_readGiven 416 [(.ifCond .eq 35, 451, 0, 0), (.aload_n 0, 0, 0, 0), (.getfield 19, 5, 9, 0), (.iconst 2, 0, 0, 0), (.iaload, 0, 0, 0), (.aload_n 1, 0, 0, 0), (.aload_n 0, 0, 0, 0), (.getfield 19, 5, 9, 0), (.iconst 0, 0, 0, 0), (.iaload, 0, 0, 0)] = true := by decide +kernel
theorem k5_readGiven_435 : gAt m5_readGiven 435 [(.if_icmp .le 12, 447, 0, 0), (.aload_n 0, 0, 0, 0), (.bipush 6, 0, 0, 0)] = true := by decide +kernel
theorem k5_readGiven_444 : gAt m5_readGiven 444 [(.ifCond .eq 7, 451, 0, 0)] = true := by decide +kernel
theorem k5_readGiven_447 : gAt m5_readGiven 447 [(.iconst 1, 0, 0, 0), (.goto 4, 452, 0, 0)] = true := by decide +kernel
theorem k5_readGiven_451 : gAt m5_readGiven 451 [(.iconst 0, 0, 0, 0)] = true := by decide +kernel
theorem k5_readGiven_452 : gAt m5_readGiven 452 [(.ireturn, 0, 0, 0)] = true := by decide +kernel
theorem k5_readGiven_453 : gAt m5_readGiven 453 [(.aload_n 0, 0, 0, 0), (.iconst 0, 0, 0, 0), (.iconst 1, 0, 0, 0), (.bipush 60, 0, 0, 0)] = true := by decide +kernel
theorem k5_readGiven_461 : gAt m5_readGiven 461 [(.ireturn, 0, 0, 0)] = true := by decide +kernel
theorem k5_readGiven_462 : gAt m5_readGiven 462 [(.aload_n 0, 0, 0, 0), (.iconst 0, 0, 0, 0)] = true := by decide +kernel
theorem k5_readGiven_467 : gAt m5_readGiven 467 [(.ireturn, 0, 0, 0)] = true := by decide +kernel
theorem k5_readGiven_468 : gAt m5_readGiven 468 [(.aload_n 0, 0, 0, 0), (.iconst 0, 0, 0, 0), (.iconst 0, 0, 0, 0), (.sipush 999, 0, 0, 0)] = true := by decide +kernel
theorem k5_readGiven_477 : gAt m5_readGiven 477 [(.ireturn, 0, 0, 0)] = true := by decide +kernel
theorem k5_readGiven_478 : gAt m5_readGiven 478 [(.aload_n 0, 0, 0, 0), (.iconst 0, 0, 0, 0), (.iconst 0, 0, 0, 0), (.sipush 300, 0, 0, 0)] = true := by decide +kernel
theorem k5_readGiven_487 : gAt m5_readGiven 487 [(.ireturn, 0, 0, 0)] = true := by decide +kernel
theorem k5_readGiven_488 : gAt m5_readGiven 488 [(.iconst 1, 0, 0, 0), (.ireturn, 0, 0, 0)] = true := by decide +kernel
abbrev m5_newSide : gM := (5, yX5_newSide, cX5_newSide, 1, (some .int), [], none)
theorem k5_newSide_0 : gAt m5_newSide 0 [(.aload_n 0, 0, 0, 0), (.getfield 118, 5, 8, 0), (.iconst 2, 0, 0, 0), (.if_icmp .ne 7, 12, 0, 0), (.iconst 0, 0, 0, 0), (.goto 4, 13, 0, 0)] = true := by decide +kernel
theorem k5_newSide_12 : gAt m5_newSide 12 [(.iconst 1, 0, 0, 0)] = true := by decide +kernel
theorem k5_newSide_13 : gAt m5_newSide 13 [(.ireturn, 0, 0, 0)] = true := by decide +kernel
abbrev m5_readNumber : gM := (5, yX5_readNumber, cX5_readNumber, 4, (some .boolean), [], none)
theorem k5_readNumber_0 : gAt m5_readNumber 0 [(.aload_n 0, 0, 0, 0)] = true := by decide +kernel
theorem k5_readNumber_4 : gAt m5_readNumber 4 [(.aload_n 0, 0, 0, 0), (.getfield 53, 5, 4, 0), (.iconst 2, 0, 0, 0), (.if_icmp .eq 9, 18, 0, 0), (.aload_n 0, 0, 0, 0), (.iconst 1, 0, 0, 0)] = true := by decide +kernel
theorem k5_readNumber_17 : gAt m5_readNumber 17 [(.ireturn, 0, 0, 0)] = true := by decide +kernel
theorem k5_readNumber_18 : gAt m5_readNumber 18 [(.aload_n 0, 0, 0, 0), (.getfield 19, 5, 9, 0), (.iload_n 1, 0, 0, 0), (.aload_n 0, 0, 0, 0), (.getfield 71, 5, 7, 0), (.iastore, 0, 0, 0), (.aload_n 0, 0, 0, 0), (.getfield 71, 5, 7, 0), (.iload_n 2, 0, 0, 0), (.if_icmp .lt 11, 44, 0, 0), (.aload_n 0, 0, 0, 0), (.getfield 71, 5, 7, 0), (.iload_n 3, 0, 0, 0), (.if_icmp .le 11, 52, 0, 0)] = true := by decide +kernel
theorem k5_readNumber_44 : gAt m5_readNumber 44 [(.aload_n 0, 0, 0, 0), (.iconst 2, 0, 0, 0)] = true := by decide +kernel
theorem k5_readNumber_49 : gAt m5_readNumber 49 [(.ifCond .eq 7, 56, 0, 0)] = true := by decide +kernel
theorem k5_readNumber_52 : gAt m5_readNumber 52 [(.iconst 1, 0, 0, 0), (.goto 4, 57, 0, 0)] = true := by decide +kernel
theorem k5_readNumber_56 : gAt m5_readNumber 56 [(.iconst 0, 0, 0, 0)] = true := by decide +kernel
theorem k5_readNumber_57 : gAt m5_readNumber 57 [(.ireturn, 0, 0, 0)] = true := by decide +kernel
abbrev m5_readRule : gM := (5, yX5_readRule, cX5_readRule, 2, (some .boolean), [], none)
theorem k5_readRule_0 : gAt m5_readRule 0 [(.aload_n 0, 0, 0, 0)] = true := by decide +kernel
theorem k5_readRule_4 : gAt m5_readRule 4 [(.aload_n 0, 0, 0, 0), (.getfield 53, 5, 4, 0), (.iconst 1, 0, 0, 0), (.if_icmp .eq 9, 18, 0, 0), (.aload_n 0, 0, 0, 0), (.iconst 1, 0, 0, 0)] = true := by decide +kernel
theorem k5_readRule_17 : gAt m5_readRule 17 [(.ireturn, 0, 0, 0)] = true := by decide +kernel
theorem k5_readRule_18 : gAt m5_readRule 18 [(.aload_n 0, 0, 0, 0), (.getfield 19, 5, 9, 0), (.iload_n 1, 0, 0, 0), (.aload_n 0, 0, 0, 0), (.ldc 181, 1, 17, 0)] = true := by decide +kernel
theorem k5_readRule_29 : gAt m5_readRule 29 [(.ifCond .eq 7, 36, 0, 0), (.iconst 1, 0, 0, 0), (.goto 4, 37, 0, 0)] = true := by decide +kernel
theorem k5_readRule_36 : gAt m5_readRule 36 [(.iconst 0, 0, 0, 0)] = true := by decide +kernel
theorem k5_readRule_37 : gAt m5_readRule 37 [(.iastore, 0, 0, 0), (.aload_n 0, 0, 0, 0), (.getfield 19, 5, 9, 0), (.iload_n 1, 0, 0, 0), (.iaload, 0, 0, 0), (.iconst 1, 0, 0, 0), (.if_icmp .eq 20, 65, 0, 0), (.aload_n 0, 0, 0, 0), (.ldc 183, 1, 18, 0)] = true := by decide +kernel
theorem k5_readRule_54 : gAt m5_readRule 54 [(.ifCond .ne 11, 65, 0, 0), (.aload_n 0, 0, 0, 0), (.iconst 4, 0, 0, 0)] = true := by decide +kernel
theorem k5_readRule_62 : gAt m5_readRule 62 [(.ifCond .eq 7, 69, 0, 0)] = true := by decide +kernel
theorem k5_readRule_65 : gAt m5_readRule 65 [(.iconst 1, 0, 0, 0), (.goto 4, 70, 0, 0)] = true := by decide +kernel
theorem k5_readRule_69 : gAt m5_readRule 69 [(.iconst 0, 0, 0, 0)] = true := by decide +kernel
theorem k5_readRule_70 : gAt m5_readRule 70 [(.ireturn, 0, 0, 0)] = true := by decide +kernel
abbrev m5_packedName : gM := (5, yX5_packedName, cX5_packedName, 3, (some .int), [], none)
theorem k5_packedName_0 : gAt m5_packedName 0 [(.aload_n 0, 0, 0, 0), (.getfield 42, 5, 6, 0), (.aload_n 0, 0, 0, 0), (.getfield 64, 5, 5, 0), (.isub, 0, 0, 0), (.iconst 4, 0, 0, 0), (.if_icmp .le 5, 15, 0, 0), (.iconst 0, 0, 0, 0), (.ireturn, 0, 0, 0)] = true := by decide +kernel
theorem k5_packedName_15 : gAt m5_packedName 15 [(.iconst 0, 0, 0, 0), (.istore_n 1, 0, 0, 0), (.aload_n 0, 0, 0, 0), (.getfield 64, 5, 5, 0), (.istore_n 2, 0, 0, 0)] = true := by decide +kernel
theorem k5_packedName_22 : gAt m5_packedName 22 [(.iload_n 2, 0, 0, 0), (.aload_n 0, 0, 0, 0), (.getfield 42, 5, 6, 0), (.if_icmp .ge 22, 49, 0, 0), (.iload_n 1, 0, 0, 0), (.sipush 256, 0, 0, 0), (.imul, 0, 0, 0), (.aload_n 0, 0, 0, 0), (.getfield 15, 5, 3, 0), (.iload_n 2, 0, 0, 0), (.baload, 0, 0, 0), (.iadd, 0, 0, 0), (.istore_n 1, 0, 0, 0), (.iinc 2 1, 0, 0, 0), (.goto (-24), 22, 0, 0)] = true := by decide +kernel
theorem k5_packedName_49 : gAt m5_packedName 49 [(.iload_n 1, 0, 0, 0), (.ireturn, 0, 0, 0)] = true := by decide +kernel
abbrev m5_readNewName : gM := (5, yX5_readNewName, cX5_readNewName, 2, (some .boolean), [], none)
theorem k5_readNewName_0 : gAt m5_readNewName 0 [(.aload_n 0, 0, 0, 0)] = true := by decide +kernel
theorem k5_readNewName_4 : gAt m5_readNewName 4 [(.aload_n 0, 0, 0, 0), (.getfield 53, 5, 4, 0), (.iconst 1, 0, 0, 0), (.if_icmp .eq 9, 18, 0, 0), (.aload_n 0, 0, 0, 0), (.iconst 1, 0, 0, 0)] = true := by decide +kernel
theorem k5_readNewName_17 : gAt m5_readNewName 17 [(.ireturn, 0, 0, 0)] = true := by decide +kernel
theorem k5_readNewName_18 : gAt m5_readNewName 18 [(.aload_n 0, 0, 0, 0), (.getfield 19, 5, 9, 0), (.iconst 0, 0, 0, 0), (.aload_n 0, 0, 0, 0)] = true := by decide +kernel
theorem k5_readNewName_27 : gAt m5_readNewName 27 [(.iastore, 0, 0, 0), (.aload_n 0, 0, 0, 0), (.getfield 19, 5, 9, 0), (.iconst 0, 0, 0, 0), (.iaload, 0, 0, 0), (.ifCond .ne 9, 43, 0, 0), (.aload_n 0, 0, 0, 0), (.iconst 2, 0, 0, 0)] = true := by decide +kernel
theorem k5_readNewName_42 : gAt m5_readNewName 42 [(.ireturn, 0, 0, 0)] = true := by decide +kernel
theorem k5_readNewName_43 : gAt m5_readNewName 43 [(.aload_n 1, 0, 0, 0), (.aload_n 0, 0, 0, 0), (.getfield 19, 5, 9, 0), (.iconst 0, 0, 0, 0), (.iaload, 0, 0, 0)] = true := by decide +kernel
theorem k5_readNewName_53 : gAt m5_readNewName 53 [(.iconst (-1), 0, 0, 0), (.if_icmp .eq 11, 65, 0, 0), (.aload_n 0, 0, 0, 0), (.iconst 3, 0, 0, 0)] = true := by decide +kernel
theorem k5_readNewName_62 : gAt m5_readNewName 62 [(.ifCond .eq 7, 69, 0, 0)] = true := by decide +kernel
theorem k5_readNewName_65 : gAt m5_readNewName 65 [(.iconst 1, 0, 0, 0), (.goto 4, 70, 0, 0)] = true := by decide +kernel
theorem k5_readNewName_69 : gAt m5_readNewName 69 [(.iconst 0, 0, 0, 0)] = true := by decide +kernel
theorem k5_readNewName_70 : gAt m5_readNewName 70 [(.ireturn, 0, 0, 0)] = true := by decide +kernel
abbrev m5_readTrader : gM := (5, yX5_readTrader, cX5_readTrader, 3, (some .boolean), [], none)
theorem k5_readTrader_0 : gAt m5_readTrader 0 [(.aload_n 0, 0, 0, 0)] = true := by decide +kernel
theorem k5_readTrader_4 : gAt m5_readTrader 4 [(.aload_n 0, 0, 0, 0), (.getfield 53, 5, 4, 0), (.iconst 1, 0, 0, 0), (.if_icmp .eq 9, 18, 0, 0), (.aload_n 0, 0, 0, 0), (.iconst 1, 0, 0, 0)] = true := by decide +kernel
theorem k5_readTrader_17 : gAt m5_readTrader 17 [(.ireturn, 0, 0, 0)] = true := by decide +kernel
theorem k5_readTrader_18 : gAt m5_readTrader 18 [(.aload_n 0, 0, 0, 0), (.getfield 19, 5, 9, 0), (.iload_n 1, 0, 0, 0), (.aload_n 2, 0, 0, 0), (.aload_n 0, 0, 0, 0)] = true := by decide +kernel
theorem k5_readTrader_31 : gAt m5_readTrader 31 [(.iastore, 0, 0, 0), (.aload_n 0, 0, 0, 0), (.getfield 19, 5, 9, 0), (.iload_n 1, 0, 0, 0), (.iaload, 0, 0, 0), (.iconst (-1), 0, 0, 0), (.if_icmp .ne 11, 50, 0, 0), (.aload_n 0, 0, 0, 0), (.iconst 4, 0, 0, 0)] = true := by decide +kernel
theorem k5_readTrader_47 : gAt m5_readTrader 47 [(.ifCond .eq 7, 54, 0, 0)] = true := by decide +kernel
theorem k5_readTrader_50 : gAt m5_readTrader 50 [(.iconst 1, 0, 0, 0), (.goto 4, 55, 0, 0)] = true := by decide +kernel
theorem k5_readTrader_54 : gAt m5_readTrader 54 [(.iconst 0, 0, 0, 0)] = true := by decide +kernel
theorem k5_readTrader_55 : gAt m5_readTrader 55 [(.ireturn, 0, 0, 0)] = true := by decide +kernel
abbrev m5_readRow : gM := (5, yX5_readRow, cX5_readRow, 2, (some .boolean), [], none)
theorem k5_readRow_0 : gAt m5_readRow 0 [(.aload_n 0, 0, 0, 0)] = true := by decide +kernel
theorem k5_readRow_4 : gAt m5_readRow 4 [(.aload_n 0, 0, 0, 0), (.getfield 53, 5, 4, 0), (.iconst 2, 0, 0, 0), (.if_icmp .eq 9, 18, 0, 0), (.aload_n 0, 0, 0, 0), (.iconst 1, 0, 0, 0)] = true := by decide +kernel
theorem k5_readRow_17 : gAt m5_readRow 17 [(.ireturn, 0, 0, 0)] = true := by decide +kernel
theorem k5_readRow_18 : gAt m5_readRow 18 [(.aload_n 0, 0, 0, 0), (.getfield 19, 5, 9, 0), (.iconst 0, 0, 0, 0), (.aload_n 1, 0, 0, 0), (.aload_n 0, 0, 0, 0), (.getfield 71, 5, 7, 0)] = true := by decide +kernel
theorem k5_readRow_31 : gAt m5_readRow 31 [(.iastore, 0, 0, 0), (.aload_n 0, 0, 0, 0), (.getfield 19, 5, 9, 0), (.iconst 0, 0, 0, 0), (.iaload, 0, 0, 0), (.iconst (-1), 0, 0, 0), (.if_icmp .ne 11, 50, 0, 0), (.aload_n 0, 0, 0, 0), (.iconst 4, 0, 0, 0)] = true := by decide +kernel
theorem k5_readRow_47 : gAt m5_readRow 47 [(.ifCond .eq 7, 54, 0, 0)] = true := by decide +kernel
theorem k5_readRow_50 : gAt m5_readRow 50 [(.iconst 1, 0, 0, 0), (.goto 4, 55, 0, 0)] = true := by decide +kernel
theorem k5_readRow_54 : gAt m5_readRow 54 [(.iconst 0, 0, 0, 0)] = true := by decide +kernel
theorem k5_readRow_55 : gAt m5_readRow 55 [(.ireturn, 0, 0, 0)] = true := by decide +kernel
abbrev m5_carryOut : gM := (5, yX5_carryOut, cX5_carryOut, 3, none, [], none)
theorem k5_carryOut_0 : gAt m5_carryOut 0 [(.aload_n 0, 0, 0, 0), (.getfield 118, 5, 8, 0)] = true := by decide +kernel
theorem k5_carryOut_76 : gAt m5_carryOut 76 [(.aload_n 1, 0, 0, 0), (.aload_n 0, 0, 0, 0), (.getfield 19, 5, 9, 0), (.iconst 0, 0, 0, 0), (.iaload, 0, 0, 0), (.putfield 194, 3, 4, 0), (.aload_n 1, 0, 0, 0), (.aload_n 0, 0, 0, 0), (.getfield 19, 5, 9, 0), (.iconst 1, 0, 0, 0), (.iaload, 0, 0, 0), (.putfield 196, 3, 1, 0), (.aload_n 1, 0, 0, 0), (.aload_n 0, 0, 0, 0), (.getfield 19, 5, 9, 0), (.iconst 2, 0, 0, 0), (.iaload, 0, 0, 0), (.putfield 199, 3, 2, 0), (.aload_n 1, 0, 0, 0), (.aload_n 0, 0, 0, 0), (.getfield 19, 5, 9, 0), (.iconst 3, 0, 0, 0), (.iaload, 0, 0, 0), (.putfield 201, 3, 3, 0), (.goto 259, 375, 0, 0)] = true := by decide +kernel
theorem k5_carryOut_119 : gAt m5_carryOut 119 [(.aload_n 1, 0, 0, 0), (.aload_n 0, 0, 0, 0), (.getfield 19, 5, 9, 0), (.iconst 0, 0, 0, 0), (.iaload, 0, 0, 0), (.aload_n 0, 0, 0, 0), (.getfield 19, 5, 9, 0), (.iconst 1, 0, 0, 0), (.iaload, 0, 0, 0), (.aload_n 0, 0, 0, 0), (.getfield 19, 5, 9, 0), (.iconst 2, 0, 0, 0), (.iaload, 0, 0, 0)] = true := by decide +kernel
theorem k5_carryOut_141 : gAt m5_carryOut 141 [(.goto 234, 375, 0, 0)] = true := by decide +kernel
theorem k5_carryOut_144 : gAt m5_carryOut 144 [(.aload_n 1, 0, 0, 0), (.aload_n 0, 0, 0, 0), (.getfield 19, 5, 9, 0), (.iconst 0, 0, 0, 0), (.iaload, 0, 0, 0), (.aload_n 0, 0, 0, 0)] = true := by decide +kernel
theorem k5_carryOut_155 : gAt m5_carryOut 155 [(.aload_n 0, 0, 0, 0), (.getfield 19, 5, 9, 0), (.iconst 1, 0, 0, 0), (.iaload, 0, 0, 0), (.aload_n 0, 0, 0, 0), (.getfield 19, 5, 9, 0), (.iconst 2, 0, 0, 0), (.iaload, 0, 0, 0), (.aload_n 0, 0, 0, 0), (.getfield 19, 5, 9, 0), (.iconst 3, 0, 0, 0), (.iaload, 0, 0, 0)] = true := by decide +kernel
theorem k5_carryOut_176 : gAt m5_carryOut 176 [(.pop, 0, 0, 0), (.goto 198, 375, 0, 0)] = true := by decide +kernel
theorem k5_carryOut_180 : gAt m5_carryOut 180 [(.aload_n 1, 0, 0, 0), (.getfield 134, 3, 6, 0), (.aload_n 0, 0, 0, 0), (.getfield 19, 5, 9, 0), (.iconst 0, 0, 0, 0), (.iaload, 0, 0, 0)] = true := by decide +kernel
theorem k5_carryOut_193 : gAt m5_carryOut 193 [(.goto 182, 375, 0, 0)] = true := by decide +kernel
theorem k5_carryOut_196 : gAt m5_carryOut 196 [(.aload_n 1, 0, 0, 0), (.getfield 134, 3, 6, 0), (.getfield 175, 0, 6, 0), (.aload_n 0, 0, 0, 0), (.getfield 19, 5, 9, 0), (.iconst 0, 0, 0, 0), (.iaload, 0, 0, 0), (.aload_n 0, 0, 0, 0), (.getfield 19, 5, 9, 0), (.iconst 1, 0, 0, 0), (.iaload, 0, 0, 0), (.iastore, 0, 0, 0), (.goto 159, 375, 0, 0)] = true := by decide +kernel
theorem k5_carryOut_219 : gAt m5_carryOut 219 [(.aload_n 1, 0, 0, 0), (.getfield 134, 3, 6, 0), (.getfield 214, 0, 7, 0), (.aload_n 0, 0, 0, 0), (.getfield 19, 5, 9, 0), (.iconst 0, 0, 0, 0), (.iaload, 0, 0, 0), (.aload_n 1, 0, 0, 0), (.getfield 217, 3, 0, 0), (.aload_n 0, 0, 0, 0), (.getfield 19, 5, 9, 0), (.iconst 1, 0, 0, 0), (.iaload, 0, 0, 0), (.iadd, 0, 0, 0), (.iastore, 0, 0, 0), (.goto 131, 375, 0, 0)] = true := by decide +kernel
theorem k5_carryOut_247 : gAt m5_carryOut 247 [(.aload_n 1, 0, 0, 0), (.getfield 134, 3, 6, 0), (.aload_n 0, 0, 0, 0), (.getfield 19, 5, 9, 0), (.iconst 0, 0, 0, 0), (.iaload, 0, 0, 0)] = true := by decide +kernel
theorem k5_carryOut_260 : gAt m5_carryOut 260 [(.goto 115, 375, 0, 0)] = true := by decide +kernel
theorem k5_carryOut_263 : gAt m5_carryOut 263 [(.aload_n 1, 0, 0, 0), (.getfield 125, 3, 5, 0), (.getfield 223, 7, 3, 0), (.aload_n 0, 0, 0, 0), (.getfield 19, 5, 9, 0), (.iconst 0, 0, 0, 0), (.iaload, 0, 0, 0), (.dup2, 0, 0, 0), (.iaload, 0, 0, 0), (.aload_n 0, 0, 0, 0), (.getfield 19, 5, 9, 0), (.iconst 2, 0, 0, 0), (.iaload, 0, 0, 0), (.isub, 0, 0, 0), (.iastore, 0, 0, 0), (.aload_n 1, 0, 0, 0), (.getfield 125, 3, 5, 0), (.getfield 223, 7, 3, 0), (.aload_n 0, 0, 0, 0), (.getfield 19, 5, 9, 0), (.iconst 1, 0, 0, 0), (.iaload, 0, 0, 0), (.dup2, 0, 0, 0), (.iaload, 0, 0, 0), (.aload_n 0, 0, 0, 0), (.getfield 19, 5, 9, 0), (.iconst 2, 0, 0, 0), (.iaload, 0, 0, 0), (.iadd, 0, 0, 0), (.iastore, 0, 0, 0), (.goto 66, 375, 0, 0)] = true := by decide +kernel
theorem k5_carryOut_312 : gAt m5_carryOut 312 [(.aload_n 1, 0, 0, 0), (.aload_n 0, 0, 0, 0), (.getfield 19, 5, 9, 0), (.iconst 0, 0, 0, 0), (.iaload, 0, 0, 0), (.putfield 194, 3, 4, 0), (.goto 53, 375, 0, 0)] = true := by decide +kernel
theorem k5_carryOut_325 : gAt m5_carryOut 325 [(.aload_n 1, 0, 0, 0), (.aload_n 0, 0, 0, 0), (.getfield 19, 5, 9, 0), (.iconst 0, 0, 0, 0), (.iaload, 0, 0, 0), (.putfield 201, 3, 3, 0), (.goto 40, 375, 0, 0)] = true := by decide +kernel
theorem k5_carryOut_338 : gAt m5_carryOut 338 [(.aload_n 1, 0, 0, 0), (.aload_n 0, 0, 0, 0), (.getfield 19, 5, 9, 0), (.iconst 0, 0, 0, 0), (.iaload, 0, 0, 0), (.putfield 199, 3, 2, 0), (.goto 27, 375, 0, 0)] = true := by decide +kernel
theorem k5_carryOut_351 : gAt m5_carryOut 351 [(.aload_n 1, 0, 0, 0), (.aload_n 0, 0, 0, 0), (.getfield 19, 5, 9, 0), (.iconst 0, 0, 0, 0), (.iaload, 0, 0, 0), (.aload_n 2, 0, 0, 0)] = true := by decide +kernel
theorem k5_carryOut_362 : gAt m5_carryOut 362 [(.pop, 0, 0, 0), (.goto 12, 375, 0, 0)] = true := by decide +kernel
theorem k5_carryOut_366 : gAt m5_carryOut 366 [(.aload_n 1, 0, 0, 0), (.aload_n 2, 0, 0, 0)] = true := by decide +kernel
theorem k5_carryOut_371 : gAt m5_carryOut 371 [(.pop, 0, 0, 0), (.goto 3, 375, 0, 0)] = true := by decide +kernel
theorem k5_carryOut_375 : gAt m5_carryOut 375 [(.return_, 0, 0, 0)] = true := by decide +kernel
