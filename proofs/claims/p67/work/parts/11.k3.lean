abbrev m3_init : gM := (3, yX3_init, cX3_init, 1, none, [], none)
theorem k3_init_0 : gAt m3_init 0 [(.aload_n 0, 0, 0, 0)] = true := by decide +kernel
theorem k3_init_4 : gAt m3_init 4 [(.aload_n 0, 0, 0, 0), (.iconst 1, 0, 0, 0), (.putfield 9, 3, 1, 0), (.aload_n 0, 0, 0, 0), (.iconst 1, 0, 0, 0), (.putfield 15, 3, 4, 0), (.aload_n 0, 0, 0, 0)] = true := by decide +kernel
theorem k3_init_18 : gAt m3_init 18 [(.dup, 0, 0, 0)] = true := by decide +kernel
theorem k3_init_22 : gAt m3_init 22 [(.putfield 21, 3, 5, 2), (.aload_n 0, 0, 0, 0)] = true := by decide +kernel
theorem k3_init_29 : gAt m3_init 29 [(.dup, 0, 0, 0)] = true := by decide +kernel
theorem k3_init_33 : gAt m3_init 33 [(.putfield 28, 3, 6, 2), (.aload_n 0, 0, 0, 0)] = true := by decide +kernel
theorem k3_init_40 : gAt m3_init 40 [(.dup, 0, 0, 0)] = true := by decide +kernel
theorem k3_init_44 : gAt m3_init 44 [(.putfield 35, 3, 7, 2), (.return_, 0, 0, 0)] = true := by decide +kernel
abbrev m3_copyFrom : gM := (3, yX3_copyFrom, cX3_copyFrom, 2, none, [], none)
theorem k3_copyFrom_0 : gAt m3_copyFrom 0 [(.aload_n 0, 0, 0, 0), (.aload_n 1, 0, 0, 0), (.getfield 39, 3, 0, 0), (.putfield 39, 3, 0, 0), (.aload_n 0, 0, 0, 0), (.aload_n 1, 0, 0, 0), (.getfield 9, 3, 1, 0), (.putfield 9, 3, 1, 0), (.aload_n 0, 0, 0, 0), (.aload_n 1, 0, 0, 0), (.getfield 42, 3, 2, 0), (.putfield 42, 3, 2, 0), (.aload_n 0, 0, 0, 0), (.aload_n 1, 0, 0, 0), (.getfield 45, 3, 3, 0), (.putfield 45, 3, 3, 0), (.aload_n 0, 0, 0, 0), (.aload_n 1, 0, 0, 0), (.getfield 15, 3, 4, 0), (.putfield 15, 3, 4, 0), (.aload_n 0, 0, 0, 0), (.getfield 21, 3, 5, 0), (.aload_n 1, 0, 0, 0), (.getfield 21, 3, 5, 0)] = true := by decide +kernel
theorem k3_copyFrom_51 : gAt m3_copyFrom 51 [(.aload_n 0, 0, 0, 0), (.getfield 28, 3, 6, 0), (.aload_n 1, 0, 0, 0), (.getfield 28, 3, 6, 0)] = true := by decide +kernel
theorem k3_copyFrom_62 : gAt m3_copyFrom 62 [(.aload_n 0, 0, 0, 0), (.getfield 35, 3, 7, 0), (.aload_n 1, 0, 0, 0), (.getfield 35, 3, 7, 0)] = true := by decide +kernel
theorem k3_copyFrom_73 : gAt m3_copyFrom 73 [(.return_, 0, 0, 0)] = true := by decide +kernel
abbrev m3_clear : gM := (3, yX3_clear, cX3_clear, 1, none, [], none)
theorem k3_clear_0 : gAt m3_clear 0 [(.aload_n 0, 0, 0, 0), (.iconst 0, 0, 0, 0), (.putfield 39, 3, 0, 0), (.aload_n 0, 0, 0, 0), (.iconst 1, 0, 0, 0), (.putfield 9, 3, 1, 0), (.aload_n 0, 0, 0, 0), (.iconst 0, 0, 0, 0), (.putfield 42, 3, 2, 0), (.aload_n 0, 0, 0, 0), (.iconst 0, 0, 0, 0), (.putfield 45, 3, 3, 0), (.aload_n 0, 0, 0, 0), (.iconst 1, 0, 0, 0), (.putfield 15, 3, 4, 0), (.aload_n 0, 0, 0, 0), (.getfield 21, 3, 5, 0), (.iconst 0, 0, 0, 0), (.putfield 58, 7, 0, 0), (.aload_n 0, 0, 0, 0), (.getfield 28, 3, 6, 0), (.iconst 0, 0, 0, 0), (.putfield 61, 0, 0, 0), (.aload_n 0, 0, 0, 0), (.getfield 28, 3, 6, 0), (.iconst 0, 0, 0, 0), (.putfield 62, 0, 1, 0), (.aload_n 0, 0, 0, 0), (.getfield 35, 3, 7, 0)] = true := by decide +kernel
theorem k3_clear_56 : gAt m3_clear 56 [(.return_, 0, 0, 0)] = true := by decide +kernel
abbrev m3_minutesSinceCry : gM := (3, yX3_minutesSinceCry, cX3_minutesSinceCry, 1, (some .int), [], none)
theorem k3_minutesSinceCry_0 : gAt m3_minutesSinceCry 0 [(.aload_n 0, 0, 0, 0), (.getfield 15, 3, 4, 0), (.iconst 1, 0, 0, 0), (.if_icmp .ge 7, 12, 0, 0), (.iconst 0, 0, 0, 0), (.goto 12, 21, 0, 0)] = true := by decide +kernel
theorem k3_minutesSinceCry_12 : gAt m3_minutesSinceCry 12 [(.aload_n 0, 0, 0, 0), (.getfield 39, 3, 0, 0), (.aload_n 0, 0, 0, 0), (.getfield 15, 3, 4, 0), (.irem, 0, 0, 0)] = true := by decide +kernel
theorem k3_minutesSinceCry_21 : gAt m3_minutesSinceCry 21 [(.ireturn, 0, 0, 0)] = true := by decide +kernel
abbrev m3_coinsNotHeld : gM := (3, yX3_coinsNotHeld, cX3_coinsNotHeld, 2, (some .int), [], none)
theorem k3_coinsNotHeld_0 : gAt m3_coinsNotHeld 0 [(.aload_n 0, 0, 0, 0), (.getfield 21, 3, 5, 0), (.getfield 68, 7, 2, 0), (.iload_n 1, 0, 0, 0), (.iaload, 0, 0, 0), (.aload_n 0, 0, 0, 0), (.getfield 28, 3, 6, 0), (.iload_n 1, 0, 0, 0)] = true := by decide +kernel
theorem k3_coinsNotHeld_17 : gAt m3_coinsNotHeld 17 [(.isub, 0, 0, 0), (.ireturn, 0, 0, 0)] = true := by decide +kernel
abbrev m3_goodsNotHeld : gM := (3, yX3_goodsNotHeld, cX3_goodsNotHeld, 2, (some .int), [], none)
theorem k3_goodsNotHeld_0 : gAt m3_goodsNotHeld 0 [(.aload_n 0, 0, 0, 0), (.getfield 21, 3, 5, 0), (.getfield 76, 7, 3, 0), (.iload_n 1, 0, 0, 0), (.iaload, 0, 0, 0), (.aload_n 0, 0, 0, 0), (.getfield 28, 3, 6, 0), (.iload_n 1, 0, 0, 0)] = true := by decide +kernel
theorem k3_goodsNotHeld_17 : gAt m3_goodsNotHeld 17 [(.isub, 0, 0, 0), (.ireturn, 0, 0, 0)] = true := by decide +kernel
abbrev m3_refusal : gM := (3, yX3_refusal, cX3_refusal, 5, (some .int), [], none)
theorem k3_refusal_0 : gAt m3_refusal 0 [(.aload_n 0, 0, 0, 0), (.getfield 28, 3, 6, 0)] = true := by decide +kernel
theorem k3_refusal_7 : gAt m3_refusal 7 [(.ifCond .eq 5, 12, 0, 0), (.iconst 1, 0, 0, 0), (.ireturn, 0, 0, 0)] = true := by decide +kernel
theorem k3_refusal_12 : gAt m3_refusal 12 [(.iload_n 2, 0, 0, 0), (.ifCond .ne 17, 30, 0, 0), (.aload_n 0, 0, 0, 0), (.iload_n 1, 0, 0, 0)] = true := by decide +kernel
theorem k3_refusal_21 : gAt m3_refusal 21 [(.iload_n 3, 0, 0, 0), (.iload 4, 0, 0, 0), (.imul, 0, 0, 0), (.if_icmp .ge 5, 30, 0, 0), (.iconst 2, 0, 0, 0), (.ireturn, 0, 0, 0)] = true := by decide +kernel
theorem k3_refusal_30 : gAt m3_refusal 30 [(.iload_n 2, 0, 0, 0), (.iconst 1, 0, 0, 0), (.if_icmp .ne 15, 47, 0, 0), (.aload_n 0, 0, 0, 0), (.iload_n 1, 0, 0, 0)] = true := by decide +kernel
theorem k3_refusal_40 : gAt m3_refusal 40 [(.iload 4, 0, 0, 0), (.if_icmp .ge 5, 47, 0, 0), (.iconst 3, 0, 0, 0), (.ireturn, 0, 0, 0)] = true := by decide +kernel
theorem k3_refusal_47 : gAt m3_refusal 47 [(.iconst 0, 0, 0, 0), (.ireturn, 0, 0, 0)] = true := by decide +kernel
abbrev m3_addTrader : gM := (3, yX3_addTrader, cX3_addTrader, 4, none, [], none)
theorem k3_addTrader_0 : gAt m3_addTrader 0 [(.aload_n 0, 0, 0, 0), (.getfield 21, 3, 5, 0), (.iload_n 1, 0, 0, 0), (.iload_n 2, 0, 0, 0), (.iload_n 3, 0, 0, 0)] = true := by decide +kernel
theorem k3_addTrader_10 : gAt m3_addTrader 10 [(.aload_n 0, 0, 0, 0), (.getfield 35, 3, 7, 0), (.dup, 0, 0, 0), (.getfield 96, 6, 5, 0), (.iload_n 2, 0, 0, 0), (.iadd, 0, 0, 0), (.putfield 96, 6, 5, 0), (.aload_n 0, 0, 0, 0), (.getfield 35, 3, 7, 0), (.dup, 0, 0, 0), (.getfield 99, 6, 6, 0), (.iload_n 3, 0, 0, 0), (.iadd, 0, 0, 0), (.putfield 99, 6, 6, 0), (.return_, 0, 0, 0)] = true := by decide +kernel
abbrev m3_addOrder : gM := (3, yX3_addOrder, cX3_addOrder, 6, (some .int), [], none)
theorem k3_addOrder_0 : gAt m3_addOrder 0 [(.aload_n 0, 0, 0, 0), (.getfield 35, 3, 7, 0), (.dup, 0, 0, 0), (.getfield 102, 6, 1, 0), (.iload 4, 0, 0, 0), (.iadd, 0, 0, 0), (.putfield 102, 6, 1, 0), (.aload_n 0, 0, 0, 0), (.getfield 28, 3, 6, 0), (.iload_n 1, 0, 0, 0), (.iload_n 2, 0, 0, 0), (.iload_n 3, 0, 0, 0), (.iload 4, 0, 0, 0), (.aload_n 0, 0, 0, 0), (.getfield 39, 3, 0, 0), (.iload 5, 0, 0, 0), (.iadd, 0, 0, 0)] = true := by decide +kernel
theorem k3_addOrder_33 : gAt m3_addOrder 33 [(.ireturn, 0, 0, 0)] = true := by decide +kernel
abbrev m3_letMinutesPass : gM := (3, yX3_letMinutesPass, cX3_letMinutesPass, 5, (some .int), [], none)
theorem k3_letMinutesPass_0 : gAt m3_letMinutesPass 0 [(.aload_n 0, 0, 0, 0), (.getfield 35, 3, 7, 0), (.getfield 108, 6, 0, 0), (.istore_n 3, 0, 0, 0), (.iconst 0, 0, 0, 0), (.istore 4, 0, 0, 0)] = true := by decide +kernel
theorem k3_letMinutesPass_11 : gAt m3_letMinutesPass 11 [(.iload 4, 0, 0, 0), (.iload_n 1, 0, 0, 0), (.if_icmp .ge 55, 69, 0, 0), (.aload_n 0, 0, 0, 0), (.dup, 0, 0, 0), (.getfield 39, 3, 0, 0), (.iconst 1, 0, 0, 0), (.iadd, 0, 0, 0), (.putfield 39, 3, 0, 0), (.aload_n 0, 0, 0, 0), (.getfield 35, 3, 7, 0), (.dup, 0, 0, 0), (.getfield 111, 6, 4, 0), (.aload_n 0, 0, 0, 0), (.getfield 28, 3, 6, 0), (.aload_n 0, 0, 0, 0), (.getfield 39, 3, 0, 0)] = true := by decide +kernel
theorem k3_letMinutesPass_46 : gAt m3_letMinutesPass 46 [(.iadd, 0, 0, 0), (.putfield 111, 6, 4, 0), (.aload_n 0, 0, 0, 0)] = true := by decide +kernel
theorem k3_letMinutesPass_54 : gAt m3_letMinutesPass 54 [(.ifCond .ne 9, 63, 0, 0), (.aload_n 0, 0, 0, 0), (.aload_n 2, 0, 0, 0)] = true := by decide +kernel
theorem k3_letMinutesPass_62 : gAt m3_letMinutesPass 62 [(.pop, 0, 0, 0)] = true := by decide +kernel
theorem k3_letMinutesPass_63 : gAt m3_letMinutesPass 63 [(.iinc 4 1, 0, 0, 0), (.goto (-55), 11, 0, 0)] = true := by decide +kernel
theorem k3_letMinutesPass_69 : gAt m3_letMinutesPass 69 [(.aload_n 0, 0, 0, 0), (.getfield 35, 3, 7, 0), (.getfield 108, 6, 0, 0), (.iload_n 3, 0, 0, 0), (.isub, 0, 0, 0), (.ireturn, 0, 0, 0)] = true := by decide +kernel
abbrev m3_stopsAt : gM := (3, yX3_stopsAt, cX3_stopsAt, 2, (some .boolean), [], none)
theorem k3_stopsAt_0 : gAt m3_stopsAt 0 [(.iload_n 1, 0, 0, 0), (.iconst (-1), 0, 0, 0), (.if_icmp .eq 30, 32, 0, 0), (.aload_n 0, 0, 0, 0), (.getfield 42, 3, 2, 0), (.ifCond .eq 23, 32, 0, 0), (.iload_n 1, 0, 0, 0), (.aload_n 0, 0, 0, 0), (.getfield 9, 3, 1, 0), (.isub, 0, 0, 0)] = true := by decide +kernel
theorem k3_stopsAt_21 : gAt m3_stopsAt 21 [(.aload_n 0, 0, 0, 0), (.getfield 42, 3, 2, 0), (.if_icmp .le 7, 32, 0, 0), (.iconst 1, 0, 0, 0), (.goto 4, 33, 0, 0)] = true := by decide +kernel
theorem k3_stopsAt_32 : gAt m3_stopsAt 32 [(.iconst 0, 0, 0, 0)] = true := by decide +kernel
theorem k3_stopsAt_33 : gAt m3_stopsAt 33 [(.ireturn, 0, 0, 0)] = true := by decide +kernel
abbrev m3_holdCry : gM := (3, yX3_holdCry, cX3_holdCry, 2, (some .int), [], none)
theorem k3_holdCry_0 : gAt m3_holdCry 0 [(.aload_n 1, 0, 0, 0), (.aload_n 0, 0, 0, 0), (.getfield 28, 3, 6, 0)] = true := by decide +kernel
theorem k3_holdCry_8 : gAt m3_holdCry 8 [(.aload_n 1, 0, 0, 0), (.aload_n 0, 0, 0, 0), (.getfield 9, 3, 1, 0)] = true := by decide +kernel
theorem k3_holdCry_16 : gAt m3_holdCry 16 [(.aload_n 1, 0, 0, 0), (.getfield 139, 1, 1, 0), (.iconst (-1), 0, 0, 0), (.if_icmp .ne 5, 26, 0, 0), (.iconst 0, 0, 0, 0), (.ireturn, 0, 0, 0)] = true := by decide +kernel
theorem k3_holdCry_26 : gAt m3_holdCry 26 [(.aload_n 0, 0, 0, 0), (.aload_n 1, 0, 0, 0), (.getfield 139, 1, 1, 0)] = true := by decide +kernel
theorem k3_holdCry_34 : gAt m3_holdCry 34 [(.ifCond .eq 50, 84, 0, 0), (.aload_n 0, 0, 0, 0), (.getfield 35, 3, 7, 0), (.dup, 0, 0, 0), (.getfield 146, 6, 3, 0), (.iconst 1, 0, 0, 0), (.iadd, 0, 0, 0), (.putfield 146, 6, 3, 0), (.aload_n 0, 0, 0, 0), (.dup, 0, 0, 0), (.getfield 9, 3, 1, 0), (.aload_n 1, 0, 0, 0), (.getfield 139, 1, 1, 0), (.aload_n 0, 0, 0, 0), (.getfield 9, 3, 1, 0), (.if_icmp .le 10, 73, 0, 0), (.aload_n 0, 0, 0, 0), (.getfield 42, 3, 2, 0), (.goto 8, 78, 0, 0)] = true := by decide +kernel
theorem k3_holdCry_73 : gAt m3_holdCry 73 [(.aload_n 0, 0, 0, 0), (.getfield 42, 3, 2, 0), (.ineg, 0, 0, 0)] = true := by decide +kernel
theorem k3_holdCry_78 : gAt m3_holdCry 78 [(.iadd, 0, 0, 0), (.putfield 9, 3, 1, 0), (.iconst 0, 0, 0, 0), (.ireturn, 0, 0, 0)] = true := by decide +kernel
theorem k3_holdCry_84 : gAt m3_holdCry 84 [(.aload_n 1, 0, 0, 0), (.iconst 0, 0, 0, 0), (.aload_n 0, 0, 0, 0), (.getfield 45, 3, 3, 0)] = true := by decide +kernel
theorem k3_holdCry_93 : gAt m3_holdCry 93 [(.aload_n 1, 0, 0, 0), (.iconst 1, 0, 0, 0), (.aload_n 0, 0, 0, 0), (.getfield 45, 3, 3, 0)] = true := by decide +kernel
theorem k3_holdCry_102 : gAt m3_holdCry 102 [(.aload_n 0, 0, 0, 0), (.aload_n 1, 0, 0, 0)] = true := by decide +kernel
theorem k3_holdCry_107 : gAt m3_holdCry 107 [(.aload_n 0, 0, 0, 0), (.getfield 28, 3, 6, 0)] = true := by decide +kernel
theorem k3_holdCry_114 : gAt m3_holdCry 114 [(.aload_n 1, 0, 0, 0), (.getfield 160, 1, 2, 0), (.ireturn, 0, 0, 0)] = true := by decide +kernel
abbrev m3_trade : gM := (3, yX3_trade, cX3_trade, 6, none, [], none)
theorem k3_trade_0 : gAt m3_trade 0 [(.iconst 0, 0, 0, 0), (.istore_n 2, 0, 0, 0)] = true := by decide +kernel
theorem k3_trade_2 : gAt m3_trade 2 [(.iload_n 2, 0, 0, 0), (.aload_n 0, 0, 0, 0), (.getfield 28, 3, 6, 0), (.getfield 61, 0, 0, 0), (.if_icmp .ge 96, 106, 0, 0), (.aload_n 0, 0, 0, 0), (.getfield 28, 3, 6, 0), (.getfield 163, 0, 3, 0), (.iload_n 2, 0, 0, 0), (.iaload, 0, 0, 0), (.istore_n 3, 0, 0, 0), (.aload_n 1, 0, 0, 0), (.getfield 166, 1, 8, 0), (.iload_n 2, 0, 0, 0), (.iaload, 0, 0, 0), (.istore 4, 0, 0, 0), (.aload_n 0, 0, 0, 0), (.getfield 28, 3, 6, 0), (.getfield 169, 0, 4, 0), (.iload_n 2, 0, 0, 0), (.iaload, 0, 0, 0), (.ifCond .ne 8, 48, 0, 0), (.iload 4, 0, 0, 0), (.goto 6, 51, 0, 0)] = true := by decide +kernel
theorem k3_trade_48 : gAt m3_trade 48 [(.iload 4, 0, 0, 0), (.ineg, 0, 0, 0)] = true := by decide +kernel
theorem k3_trade_51 : gAt m3_trade 51 [(.istore 5, 0, 0, 0), (.aload_n 0, 0, 0, 0), (.getfield 21, 3, 5, 0), (.getfield 76, 7, 3, 0), (.iload_n 3, 0, 0, 0), (.dup2, 0, 0, 0), (.iaload, 0, 0, 0), (.iload 5, 0, 0, 0), (.iadd, 0, 0, 0), (.iastore, 0, 0, 0), (.aload_n 0, 0, 0, 0), (.getfield 21, 3, 5, 0), (.getfield 68, 7, 2, 0), (.iload_n 3, 0, 0, 0), (.dup2, 0, 0, 0), (.iaload, 0, 0, 0), (.iload 5, 0, 0, 0), (.aload_n 1, 0, 0, 0), (.getfield 139, 1, 1, 0), (.imul, 0, 0, 0), (.isub, 0, 0, 0), (.iastore, 0, 0, 0), (.aload_n 0, 0, 0, 0), (.getfield 28, 3, 6, 0), (.getfield 172, 0, 6, 0), (.iload_n 2, 0, 0, 0), (.dup2, 0, 0, 0), (.iaload, 0, 0, 0), (.iload 4, 0, 0, 0), (.isub, 0, 0, 0), (.iastore, 0, 0, 0), (.iinc 2 1, 0, 0, 0), (.goto (-101), 2, 0, 0)] = true := by decide +kernel
theorem k3_trade_106 : gAt m3_trade 106 [(.aload_n 0, 0, 0, 0), (.aload_n 1, 0, 0, 0), (.getfield 139, 1, 1, 0), (.putfield 9, 3, 1, 0), (.aload_n 0, 0, 0, 0), (.getfield 35, 3, 7, 0), (.dup, 0, 0, 0), (.getfield 175, 6, 2, 0), (.iconst 1, 0, 0, 0), (.iadd, 0, 0, 0), (.putfield 175, 6, 2, 0), (.aload_n 0, 0, 0, 0), (.getfield 35, 3, 7, 0), (.dup, 0, 0, 0), (.getfield 108, 6, 0, 0), (.aload_n 1, 0, 0, 0), (.getfield 160, 1, 2, 0), (.iadd, 0, 0, 0), (.putfield 108, 6, 0, 0), (.aload_n 0, 0, 0, 0), (.getfield 35, 3, 7, 0), (.dup, 0, 0, 0), (.getfield 178, 6, 7, 0), (.aload_n 1, 0, 0, 0), (.getfield 160, 1, 2, 0), (.i2l, 0, 0, 0), (.aload_n 1, 0, 0, 0), (.getfield 139, 1, 1, 0), (.i2l, 0, 0, 0), (.lmul, 0, 0, 0), (.ladd, 0, 0, 0), (.putfield 178, 6, 7, 1), (.return_, 0, 0, 0)] = true := by decide +kernel
