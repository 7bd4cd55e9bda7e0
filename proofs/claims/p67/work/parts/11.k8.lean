abbrev m8_init : gM := (8, yX8_init, cX8_init, 4, none, [], none)
theorem k8_init_0 : gAt m8_init 0 [(.aload_n 0, 0, 0, 0)] = true := by decide +kernel
theorem k8_init_7 : gAt m8_init 7 [(.dup, 0, 0, 0)] = true := by decide +kernel
theorem k8_init_11 : gAt m8_init 11 [(.astore_n 1, 0, 0, 0)] = true := by decide +kernel
theorem k8_init_15 : gAt m8_init 15 [(.dup, 0, 0, 0)] = true := by decide +kernel
theorem k8_init_19 : gAt m8_init 19 [(.astore_n 2, 0, 0, 0)] = true := by decide +kernel
theorem k8_init_23 : gAt m8_init 23 [(.dup, 0, 0, 0)] = true := by decide +kernel
theorem k8_init_27 : gAt m8_init 27 [(.astore_n 3, 0, 0, 0), (.aload_n 1, 0, 0, 0), (.ldc 18, 1, 0, 0)] = true := by decide +kernel
theorem k8_init_34 : gAt m8_init 34 [(.aload_n 1, 0, 0, 0), (.ldc 24, 1, 1, 0)] = true := by decide +kernel
theorem k8_init_40 : gAt m8_init 40 [(.aload_n 1, 0, 0, 0), (.ldc 26, 1, 2, 0)] = true := by decide +kernel
theorem k8_init_46 : gAt m8_init 46 [(.aload_n 1, 0, 0, 0), (.aload_n 2, 0, 0, 0), (.aload_n 3, 0, 0, 0)] = true := by decide +kernel
theorem k8_init_52 : gAt m8_init 52 [(.pop, 0, 0, 0), (.aload_n 1, 0, 0, 0)] = true := by decide +kernel
theorem k8_init_57 : gAt m8_init 57 [(.aload_n 0, 0, 0, 0), (.aload_n 1, 0, 0, 0), (.putfield 35, 8, 0, 2), (.aload_n 0, 0, 0, 0), (.aload_n 2, 0, 0, 0), (.putfield 39, 8, 1, 2), (.aload_n 0, 0, 0, 0)] = true := by decide +kernel
theorem k8_init_71 : gAt m8_init 71 [(.dup, 0, 0, 0)] = true := by decide +kernel
theorem k8_init_75 : gAt m8_init 75 [(.putfield 43, 8, 2, 2), (.aload_n 0, 0, 0, 0), (.aload_n 3, 0, 0, 0), (.putfield 46, 8, 3, 2), (.aload_n 0, 0, 0, 0)] = true := by decide +kernel
theorem k8_init_87 : gAt m8_init 87 [(.dup, 0, 0, 0)] = true := by decide +kernel
theorem k8_init_91 : gAt m8_init 91 [(.putfield 53, 8, 4, 2), (.aload_n 0, 0, 0, 0), (.iconst 2, 0, 0, 0)] = true := by decide +kernel
theorem k8_init_99 : gAt m8_init 99 [(.putfield 57, 8, 5, 2), (.aload_n 0, 0, 0, 0)] = true := by decide +kernel
theorem k8_init_106 : gAt m8_init 106 [(.dup, 0, 0, 0)] = true := by decide +kernel
theorem k8_init_110 : gAt m8_init 110 [(.putfield 64, 8, 6, 2), (.return_, 0, 0, 0)] = true := by decide +kernel
abbrev m8_append : gM := (8, yX8_append, cX8_append, 6, (some .int), [], none)
theorem k8_append_0 : gAt m8_append 0 [(.aload_n 0, 0, 0, 0), (.getfield 35, 8, 0, 0), (.getfield 68, 5, 0, 0), (.sipush 580, 0, 0, 0), (.if_icmp .le 13, 23, 0, 0)] = true := by decide +kernel
theorem k8_append_16 : gAt m8_append 16 [(.dup, 0, 0, 0)] = true := by decide +kernel
theorem k8_append_23 : gAt m8_append 23 [(.aload_n 0, 0, 0, 0), (.getfield 35, 8, 0, 0), (.iload_n 1, 0, 0, 0)] = true := by decide +kernel
theorem k8_append_31 : gAt m8_append 31 [(.aload_n 0, 0, 0, 0), (.getfield 35, 8, 0, 0), (.iload_n 2, 0, 0, 0)] = true := by decide +kernel
theorem k8_append_39 : gAt m8_append 39 [(.aload_n 0, 0, 0, 0), (.getfield 35, 8, 0, 0), (.iload_n 3, 0, 0, 0)] = true := by decide +kernel
theorem k8_append_47 : gAt m8_append 47 [(.aload_n 0, 0, 0, 0), (.getfield 35, 8, 0, 0), (.iload 4, 0, 0, 0)] = true := by decide +kernel
theorem k8_append_56 : gAt m8_append 56 [(.aload_n 0, 0, 0, 0), (.getfield 35, 8, 0, 0), (.iload 5, 0, 0, 0)] = true := by decide +kernel
theorem k8_append_65 : gAt m8_append 65 [(.aload_n 0, 0, 0, 0), (.getfield 35, 8, 0, 0), (.getfield 68, 5, 0, 0), (.ireturn, 0, 0, 0)] = true := by decide +kernel
abbrev m8_truncate : gM := (8, yX8_truncate, cX8_truncate, 2, (some .int), [], none)
theorem k8_truncate_0 : gAt m8_truncate 0 [(.iload_n 1, 0, 0, 0), (.ifCond .lt 14, 15, 0, 0), (.iload_n 1, 0, 0, 0), (.aload_n 0, 0, 0, 0), (.getfield 35, 8, 0, 0), (.getfield 68, 5, 0, 0), (.if_icmp .le 13, 25, 0, 0)] = true := by decide +kernel
theorem k8_truncate_18 : gAt m8_truncate 18 [(.dup, 0, 0, 0)] = true := by decide +kernel
theorem k8_truncate_25 : gAt m8_truncate 25 [(.aload_n 0, 0, 0, 0), (.getfield 35, 8, 0, 0), (.iload_n 1, 0, 0, 0), (.putfield 68, 5, 0, 0), (.iload_n 1, 0, 0, 0), (.ireturn, 0, 0, 0)] = true := by decide +kernel
abbrev m8_load : gM := (8, yX8_load, cX8_load, 2, (some .int), [], none)
theorem k8_load_0 : gAt m8_load 0 [(.aload_n 0, 0, 0, 0), (.getfield 35, 8, 0, 0), (.aload_n 0, 0, 0, 0), (.getfield 43, 8, 2, 0), (.aload_n 0, 0, 0, 0), (.getfield 46, 8, 3, 0)] = true := by decide +kernel
theorem k8_load_15 : gAt m8_load 15 [(.istore_n 1, 0, 0, 0), (.aload_n 0, 0, 0, 0), (.getfield 35, 8, 0, 0)] = true := by decide +kernel
theorem k8_load_23 : gAt m8_load 23 [(.iload_n 1, 0, 0, 0), (.ifCond .ne 6, 30, 0, 0), (.bipush (-7), 0, 0, 0), (.ireturn, 0, 0, 0)] = true := by decide +kernel
theorem k8_load_30 : gAt m8_load 30 [(.aload_n 0, 0, 0, 0), (.getfield 53, 8, 4, 0), (.aload_n 0, 0, 0, 0), (.getfield 39, 8, 1, 0)] = true := by decide +kernel
theorem k8_load_41 : gAt m8_load 41 [(.aload_n 0, 0, 0, 0), (.getfield 39, 8, 1, 0), (.aload_n 0, 0, 0, 0), (.getfield 43, 8, 2, 0)] = true := by decide +kernel
theorem k8_load_52 : gAt m8_load 52 [(.aload_n 0, 0, 0, 0), (.getfield 39, 8, 1, 0), (.getfield 94, 3, 6, 0), (.getfield 98, 0, 0, 0), (.ireturn, 0, 0, 0)] = true := by decide +kernel
abbrev m8_errorCode : gM := (8, yX8_errorCode, cX8_errorCode, 1, (some .int), [], none)
theorem k8_errorCode_0 : gAt m8_errorCode 0 [(.aload_n 0, 0, 0, 0), (.getfield 35, 8, 0, 0), (.getfield 103, 5, 1, 0), (.ireturn, 0, 0, 0)] = true := by decide +kernel
abbrev m8_errorOffset : gM := (8, yX8_errorOffset, cX8_errorOffset, 1, (some .int), [], none)
theorem k8_errorOffset_0 : gAt m8_errorOffset 0 [(.aload_n 0, 0, 0, 0), (.getfield 35, 8, 0, 0), (.getfield 106, 5, 2, 0), (.ireturn, 0, 0, 0)] = true := by decide +kernel
abbrev m8_minute : gM := (8, yX8_minute, cX8_minute, 1, (some .int), [], none)
theorem k8_minute_0 : gAt m8_minute 0 [(.aload_n 0, 0, 0, 0), (.getfield 39, 8, 1, 0), (.getfield 109, 3, 0, 0), (.ireturn, 0, 0, 0)] = true := by decide +kernel
abbrev m8_lastPrice : gM := (8, yX8_lastPrice, cX8_lastPrice, 1, (some .int), [], none)
theorem k8_lastPrice_0 : gAt m8_lastPrice 0 [(.aload_n 0, 0, 0, 0), (.getfield 39, 8, 1, 0), (.getfield 112, 3, 1, 0), (.ireturn, 0, 0, 0)] = true := by decide +kernel
abbrev m8_band : gM := (8, yX8_band, cX8_band, 1, (some .int), [], none)
theorem k8_band_0 : gAt m8_band 0 [(.aload_n 0, 0, 0, 0), (.getfield 39, 8, 1, 0), (.getfield 115, 3, 2, 0), (.ireturn, 0, 0, 0)] = true := by decide +kernel
abbrev m8_rule : gM := (8, yX8_rule, cX8_rule, 1, (some .int), [], none)
theorem k8_rule_0 : gAt m8_rule 0 [(.aload_n 0, 0, 0, 0), (.getfield 39, 8, 1, 0), (.getfield 118, 3, 3, 0), (.ireturn, 0, 0, 0)] = true := by decide +kernel
abbrev m8_minutesToCry : gM := (8, yX8_minutesToCry, cX8_minutesToCry, 1, (some .int), [], none)
theorem k8_minutesToCry_0 : gAt m8_minutesToCry 0 [(.aload_n 0, 0, 0, 0), (.getfield 39, 8, 1, 0), (.getfield 121, 3, 4, 0), (.aload_n 0, 0, 0, 0), (.getfield 39, 8, 1, 0)] = true := by decide +kernel
theorem k8_minutesToCry_14 : gAt m8_minutesToCry 14 [(.isub, 0, 0, 0), (.ireturn, 0, 0, 0)] = true := by decide +kernel
abbrev m8_traderCount : gM := (8, yX8_traderCount, cX8_traderCount, 1, (some .int), [], none)
theorem k8_traderCount_0 : gAt m8_traderCount 0 [(.aload_n 0, 0, 0, 0), (.getfield 39, 8, 1, 0), (.getfield 128, 3, 5, 0), (.getfield 132, 7, 0, 0), (.ireturn, 0, 0, 0)] = true := by decide +kernel
abbrev m8_coinsOf : gM := (8, yX8_coinsOf, cX8_coinsOf, 2, (some .int), [], none)
theorem k8_coinsOf_0 : gAt m8_coinsOf 0 [(.aload_n 0, 0, 0, 0), (.iload_n 1, 0, 0, 0)] = true := by decide +kernel
theorem k8_coinsOf_5 : gAt m8_coinsOf 5 [(.aload_n 0, 0, 0, 0), (.getfield 39, 8, 1, 0), (.getfield 128, 3, 5, 0), (.getfield 138, 7, 2, 0), (.iload_n 1, 0, 0, 0), (.iaload, 0, 0, 0), (.ireturn, 0, 0, 0)] = true := by decide +kernel
abbrev m8_goodsOf : gM := (8, yX8_goodsOf, cX8_goodsOf, 2, (some .int), [], none)
theorem k8_goodsOf_0 : gAt m8_goodsOf 0 [(.aload_n 0, 0, 0, 0), (.iload_n 1, 0, 0, 0)] = true := by decide +kernel
theorem k8_goodsOf_5 : gAt m8_goodsOf 5 [(.aload_n 0, 0, 0, 0), (.getfield 39, 8, 1, 0), (.getfield 128, 3, 5, 0), (.getfield 142, 7, 3, 0), (.iload_n 1, 0, 0, 0), (.iaload, 0, 0, 0), (.ireturn, 0, 0, 0)] = true := by decide +kernel
abbrev m8_freeCoins : gM := (8, yX8_freeCoins, cX8_freeCoins, 2, (some .int), [], none)
theorem k8_freeCoins_0 : gAt m8_freeCoins 0 [(.aload_n 0, 0, 0, 0), (.iload_n 1, 0, 0, 0)] = true := by decide +kernel
theorem k8_freeCoins_5 : gAt m8_freeCoins 5 [(.aload_n 0, 0, 0, 0), (.getfield 39, 8, 1, 0), (.iload_n 1, 0, 0, 0)] = true := by decide +kernel
theorem k8_freeCoins_13 : gAt m8_freeCoins 13 [(.ireturn, 0, 0, 0)] = true := by decide +kernel
abbrev m8_freeGoods : gM := (8, yX8_freeGoods, cX8_freeGoods, 2, (some .int), [], none)
theorem k8_freeGoods_0 : gAt m8_freeGoods 0 [(.aload_n 0, 0, 0, 0), (.iload_n 1, 0, 0, 0)] = true := by decide +kernel
theorem k8_freeGoods_5 : gAt m8_freeGoods 5 [(.aload_n 0, 0, 0, 0), (.getfield 39, 8, 1, 0), (.iload_n 1, 0, 0, 0)] = true := by decide +kernel
theorem k8_freeGoods_13 : gAt m8_freeGoods 13 [(.ireturn, 0, 0, 0)] = true := by decide +kernel
abbrev m8_orderCount : gM := (8, yX8_orderCount, cX8_orderCount, 1, (some .int), [], none)
theorem k8_orderCount_0 : gAt m8_orderCount 0 [(.aload_n 0, 0, 0, 0), (.getfield 39, 8, 1, 0), (.getfield 94, 3, 6, 0), (.getfield 98, 0, 0, 0), (.ireturn, 0, 0, 0)] = true := by decide +kernel
abbrev m8_orderAt : gM := (8, yX8_orderAt, cX8_orderAt, 2, (some .int), [], none)
theorem k8_orderAt_0 : gAt m8_orderAt 0 [(.iload_n 1, 0, 0, 0), (.ifCond .lt 17, 18, 0, 0), (.iload_n 1, 0, 0, 0), (.aload_n 0, 0, 0, 0), (.getfield 39, 8, 1, 0), (.getfield 94, 3, 6, 0), (.getfield 98, 0, 0, 0), (.if_icmp .lt 13, 28, 0, 0)] = true := by decide +kernel
theorem k8_orderAt_21 : gAt m8_orderAt 21 [(.dup, 0, 0, 0)] = true := by decide +kernel
theorem k8_orderAt_28 : gAt m8_orderAt 28 [(.aload_n 0, 0, 0, 0), (.getfield 39, 8, 1, 0), (.getfield 94, 3, 6, 0), (.getfield 157, 0, 2, 0), (.iload_n 1, 0, 0, 0), (.iaload, 0, 0, 0), (.ireturn, 0, 0, 0)] = true := by decide +kernel
abbrev m8_traderOf : gM := (8, yX8_traderOf, cX8_traderOf, 3, (some .int), [], none)
theorem k8_traderOf_0 : gAt m8_traderOf 0 [(.aload_n 0, 0, 0, 0), (.iload_n 1, 0, 0, 0)] = true := by decide +kernel
theorem k8_traderOf_5 : gAt m8_traderOf 5 [(.istore_n 2, 0, 0, 0), (.aload_n 0, 0, 0, 0), (.getfield 39, 8, 1, 0), (.getfield 94, 3, 6, 0), (.getfield 163, 0, 3, 0), (.iload_n 2, 0, 0, 0), (.iaload, 0, 0, 0), (.ireturn, 0, 0, 0)] = true := by decide +kernel
abbrev m8_sideOf : gM := (8, yX8_sideOf, cX8_sideOf, 3, (some .int), [], none)
theorem k8_sideOf_0 : gAt m8_sideOf 0 [(.aload_n 0, 0, 0, 0), (.iload_n 1, 0, 0, 0)] = true := by decide +kernel
theorem k8_sideOf_5 : gAt m8_sideOf 5 [(.istore_n 2, 0, 0, 0), (.aload_n 0, 0, 0, 0), (.getfield 39, 8, 1, 0), (.getfield 94, 3, 6, 0), (.getfield 166, 0, 4, 0), (.iload_n 2, 0, 0, 0), (.iaload, 0, 0, 0), (.ireturn, 0, 0, 0)] = true := by decide +kernel
abbrev m8_limitOf : gM := (8, yX8_limitOf, cX8_limitOf, 3, (some .int), [], none)
theorem k8_limitOf_0 : gAt m8_limitOf 0 [(.aload_n 0, 0, 0, 0), (.iload_n 1, 0, 0, 0)] = true := by decide +kernel
theorem k8_limitOf_5 : gAt m8_limitOf 5 [(.istore_n 2, 0, 0, 0), (.aload_n 0, 0, 0, 0), (.getfield 39, 8, 1, 0), (.getfield 94, 3, 6, 0), (.getfield 169, 0, 5, 0), (.iload_n 2, 0, 0, 0), (.iaload, 0, 0, 0), (.ireturn, 0, 0, 0)] = true := by decide +kernel
abbrev m8_quantityOf : gM := (8, yX8_quantityOf, cX8_quantityOf, 3, (some .int), [], none)
theorem k8_quantityOf_0 : gAt m8_quantityOf 0 [(.aload_n 0, 0, 0, 0), (.iload_n 1, 0, 0, 0)] = true := by decide +kernel
theorem k8_quantityOf_5 : gAt m8_quantityOf 5 [(.istore_n 2, 0, 0, 0), (.aload_n 0, 0, 0, 0), (.getfield 39, 8, 1, 0), (.getfield 94, 3, 6, 0), (.getfield 172, 0, 6, 0), (.iload_n 2, 0, 0, 0), (.iaload, 0, 0, 0), (.ireturn, 0, 0, 0)] = true := by decide +kernel
abbrev m8_minutesLeft : gM := (8, yX8_minutesLeft, cX8_minutesLeft, 3, (some .int), [], none)
theorem k8_minutesLeft_0 : gAt m8_minutesLeft 0 [(.aload_n 0, 0, 0, 0), (.iload_n 1, 0, 0, 0)] = true := by decide +kernel
theorem k8_minutesLeft_5 : gAt m8_minutesLeft 5 [(.istore_n 2, 0, 0, 0), (.aload_n 0, 0, 0, 0), (.getfield 39, 8, 1, 0), (.getfield 94, 3, 6, 0), (.getfield 175, 0, 7, 0), (.iload_n 2, 0, 0, 0), (.iaload, 0, 0, 0), (.aload_n 0, 0, 0, 0), (.getfield 39, 8, 1, 0), (.getfield 109, 3, 0, 0), (.isub, 0, 0, 0), (.iconst 1, 0, 0, 0), (.iadd, 0, 0, 0), (.ireturn, 0, 0, 0)] = true := by decide +kernel
abbrev m8_rankOf : gM := (8, yX8_rankOf, cX8_rankOf, 3, (some .int), [], none)
theorem k8_rankOf_0 : gAt m8_rankOf 0 [(.aload_n 0, 0, 0, 0), (.iload_n 1, 0, 0, 0)] = true := by decide +kernel
theorem k8_rankOf_5 : gAt m8_rankOf 5 [(.istore_n 2, 0, 0, 0), (.aload_n 0, 0, 0, 0), (.getfield 46, 8, 3, 0), (.aload_n 0, 0, 0, 0), (.getfield 39, 8, 1, 0), (.getfield 94, 3, 6, 0)] = true := by decide +kernel
theorem k8_rankOf_20 : gAt m8_rankOf 20 [(.aload_n 0, 0, 0, 0), (.getfield 46, 8, 3, 0), (.iload_n 2, 0, 0, 0)] = true := by decide +kernel
theorem k8_rankOf_28 : gAt m8_rankOf 28 [(.ireturn, 0, 0, 0)] = true := by decide +kernel
abbrev m8_demandAt : gM := (8, yX8_demandAt, cX8_demandAt, 2, (some .int), [], none)
theorem k8_demandAt_0 : gAt m8_demandAt 0 [(.aload_n 0, 0, 0, 0), (.iload_n 1, 0, 0, 0), (.iconst 1, 0, 0, 0), (.sipush 999, 0, 0, 0)] = true := by decide +kernel
theorem k8_demandAt_9 : gAt m8_demandAt 9 [(.aload_n 0, 0, 0, 0), (.getfield 39, 8, 1, 0), (.getfield 94, 3, 6, 0), (.iload_n 1, 0, 0, 0)] = true := by decide +kernel
theorem k8_demandAt_20 : gAt m8_demandAt 20 [(.ireturn, 0, 0, 0)] = true := by decide +kernel
abbrev m8_supplyAt : gM := (8, yX8_supplyAt, cX8_supplyAt, 2, (some .int), [], none)
theorem k8_supplyAt_0 : gAt m8_supplyAt 0 [(.aload_n 0, 0, 0, 0), (.iload_n 1, 0, 0, 0), (.iconst 1, 0, 0, 0), (.sipush 999, 0, 0, 0)] = true := by decide +kernel
theorem k8_supplyAt_9 : gAt m8_supplyAt 9 [(.aload_n 0, 0, 0, 0), (.getfield 39, 8, 1, 0), (.getfield 94, 3, 6, 0), (.iload_n 1, 0, 0, 0)] = true := by decide +kernel
theorem k8_supplyAt_20 : gAt m8_supplyAt 20 [(.ireturn, 0, 0, 0)] = true := by decide +kernel
abbrev m8_volumeAt : gM := (8, yX8_volumeAt, cX8_volumeAt, 2, (some .int), [], none)
theorem k8_volumeAt_0 : gAt m8_volumeAt 0 [(.aload_n 0, 0, 0, 0), (.iload_n 1, 0, 0, 0), (.iconst 1, 0, 0, 0), (.sipush 999, 0, 0, 0)] = true := by decide +kernel
theorem k8_volumeAt_9 : gAt m8_volumeAt 9 [(.aload_n 0, 0, 0, 0), (.getfield 39, 8, 1, 0), (.getfield 94, 3, 6, 0), (.iload_n 1, 0, 0, 0)] = true := by decide +kernel
theorem k8_volumeAt_20 : gAt m8_volumeAt 20 [(.aload_n 0, 0, 0, 0), (.getfield 39, 8, 1, 0), (.getfield 94, 3, 6, 0), (.iload_n 1, 0, 0, 0)] = true := by decide +kernel
theorem k8_volumeAt_34 : gAt m8_volumeAt 34 [(.ireturn, 0, 0, 0)] = true := by decide +kernel
abbrev m8_excessAt : gM := (8, yX8_excessAt, cX8_excessAt, 2, (some .int), [], none)
theorem k8_excessAt_0 : gAt m8_excessAt 0 [(.aload_n 0, 0, 0, 0), (.iload_n 1, 0, 0, 0), (.iconst 1, 0, 0, 0), (.sipush 999, 0, 0, 0)] = true := by decide +kernel
theorem k8_excessAt_9 : gAt m8_excessAt 9 [(.aload_n 0, 0, 0, 0), (.getfield 39, 8, 1, 0), (.getfield 94, 3, 6, 0), (.iload_n 1, 0, 0, 0)] = true := by decide +kernel
theorem k8_excessAt_20 : gAt m8_excessAt 20 [(.aload_n 0, 0, 0, 0), (.getfield 39, 8, 1, 0), (.getfield 94, 3, 6, 0), (.iload_n 1, 0, 0, 0)] = true := by decide +kernel
theorem k8_excessAt_31 : gAt m8_excessAt 31 [(.isub, 0, 0, 0), (.ireturn, 0, 0, 0)] = true := by decide +kernel
abbrev m8_bestBid : gM := (8, yX8_bestBid, cX8_bestBid, 1, (some .int), [], none)
theorem k8_bestBid_0 : gAt m8_bestBid 0 [(.aload_n 0, 0, 0, 0), (.iconst 0, 0, 0, 0)] = true := by decide +kernel
theorem k8_bestBid_5 : gAt m8_bestBid 5 [(.ireturn, 0, 0, 0)] = true := by decide +kernel
abbrev m8_bestOffer : gM := (8, yX8_bestOffer, cX8_bestOffer, 1, (some .int), [], none)
theorem k8_bestOffer_0 : gAt m8_bestOffer 0 [(.aload_n 0, 0, 0, 0), (.iconst 1, 0, 0, 0)] = true := by decide +kernel
theorem k8_bestOffer_5 : gAt m8_bestOffer 5 [(.ireturn, 0, 0, 0)] = true := by decide +kernel
abbrev m8_cryPrice : gM := (8, yX8_cryPrice, cX8_cryPrice, 1, (some .int), [], none)
theorem k8_cryPrice_0 : gAt m8_cryPrice 0 [(.aload_n 0, 0, 0, 0)] = true := by decide +kernel
theorem k8_cryPrice_4 : gAt m8_cryPrice 4 [(.aload_n 0, 0, 0, 0), (.getfield 46, 8, 3, 0), (.getfield 207, 1, 1, 0), (.ireturn, 0, 0, 0)] = true := by decide +kernel
abbrev m8_cryVolume : gM := (8, yX8_cryVolume, cX8_cryVolume, 1, (some .int), [], none)
theorem k8_cryVolume_0 : gAt m8_cryVolume 0 [(.aload_n 0, 0, 0, 0)] = true := by decide +kernel
theorem k8_cryVolume_4 : gAt m8_cryVolume 4 [(.aload_n 0, 0, 0, 0), (.getfield 46, 8, 3, 0), (.getfield 210, 1, 2, 0), (.ireturn, 0, 0, 0)] = true := by decide +kernel
abbrev m8_wouldStop : gM := (8, yX8_wouldStop, cX8_wouldStop, 1, (some .boolean), [], none)
theorem k8_wouldStop_0 : gAt m8_wouldStop 0 [(.aload_n 0, 0, 0, 0)] = true := by decide +kernel
theorem k8_wouldStop_4 : gAt m8_wouldStop 4 [(.aload_n 0, 0, 0, 0), (.getfield 39, 8, 1, 0), (.aload_n 0, 0, 0, 0), (.getfield 46, 8, 3, 0), (.getfield 207, 1, 1, 0)] = true := by decide +kernel
theorem k8_wouldStop_18 : gAt m8_wouldStop 18 [(.ireturn, 0, 0, 0)] = true := by decide +kernel
abbrev m8_fillOf : gM := (8, yX8_fillOf, cX8_fillOf, 3, (some .int), [], none)
theorem k8_fillOf_0 : gAt m8_fillOf 0 [(.aload_n 0, 0, 0, 0), (.iload_n 1, 0, 0, 0)] = true := by decide +kernel
theorem k8_fillOf_5 : gAt m8_fillOf 5 [(.istore_n 2, 0, 0, 0), (.aload_n 0, 0, 0, 0)] = true := by decide +kernel
theorem k8_fillOf_10 : gAt m8_fillOf 10 [(.aload_n 0, 0, 0, 0), (.getfield 46, 8, 3, 0), (.getfield 217, 1, 8, 0), (.iload_n 2, 0, 0, 0), (.iaload, 0, 0, 0), (.ireturn, 0, 0, 0)] = true := by decide +kernel
abbrev m8_partialFills : gM := (8, yX8_partialFills, cX8_partialFills, 1, (some .int), [], none)
theorem k8_partialFills_0 : gAt m8_partialFills 0 [(.aload_n 0, 0, 0, 0)] = true := by decide +kernel
theorem k8_partialFills_4 : gAt m8_partialFills 4 [(.aload_n 0, 0, 0, 0), (.getfield 46, 8, 3, 0)] = true := by decide +kernel
theorem k8_partialFills_11 : gAt m8_partialFills 11 [(.ireturn, 0, 0, 0)] = true := by decide +kernel
abbrev m8_lastLimit : gM := (8, yX8_lastLimit, cX8_lastLimit, 2, (some .int), [], none)
theorem k8_lastLimit_0 : gAt m8_lastLimit 0 [(.aload_n 0, 0, 0, 0), (.iload_n 1, 0, 0, 0), (.iconst 0, 0, 0, 0), (.iconst 1, 0, 0, 0)] = true := by decide +kernel
theorem k8_lastLimit_7 : gAt m8_lastLimit 7 [(.aload_n 0, 0, 0, 0)] = true := by decide +kernel
theorem k8_lastLimit_11 : gAt m8_lastLimit 11 [(.aload_n 0, 0, 0, 0), (.getfield 46, 8, 3, 0), (.iload_n 1, 0, 0, 0)] = true := by decide +kernel
theorem k8_lastLimit_19 : gAt m8_lastLimit 19 [(.ireturn, 0, 0, 0)] = true := by decide +kernel
abbrev m8_priceToBuy : gM := (8, yX8_priceToBuy, cX8_priceToBuy, 2, (some .int), [], none)
theorem k8_priceToBuy_0 : gAt m8_priceToBuy 0 [(.aload_n 0, 0, 0, 0), (.iload_n 1, 0, 0, 0), (.iconst 1, 0, 0, 0), (.sipush 999, 0, 0, 0)] = true := by decide +kernel
theorem k8_priceToBuy_9 : gAt m8_priceToBuy 9 [(.aload_n 0, 0, 0, 0), (.getfield 39, 8, 1, 0), (.getfield 94, 3, 6, 0), (.iload_n 1, 0, 0, 0)] = true := by decide +kernel
theorem k8_priceToBuy_20 : gAt m8_priceToBuy 20 [(.ireturn, 0, 0, 0)] = true := by decide +kernel
abbrev m8_priceToSell : gM := (8, yX8_priceToSell, cX8_priceToSell, 2, (some .int), [], none)
theorem k8_priceToSell_0 : gAt m8_priceToSell 0 [(.aload_n 0, 0, 0, 0), (.iload_n 1, 0, 0, 0), (.iconst 1, 0, 0, 0), (.sipush 999, 0, 0, 0)] = true := by decide +kernel
theorem k8_priceToSell_9 : gAt m8_priceToSell 9 [(.aload_n 0, 0, 0, 0), (.getfield 39, 8, 1, 0), (.getfield 94, 3, 6, 0), (.iload_n 1, 0, 0, 0)] = true := by decide +kernel
theorem k8_priceToSell_20 : gAt m8_priceToSell 20 [(.ireturn, 0, 0, 0)] = true := by decide +kernel
abbrev m8_orderRefusal : gM := (8, yX8_orderRefusal, cX8_orderRefusal, 5, (some .int), [], none)
theorem k8_orderRefusal_0 : gAt m8_orderRefusal 0 [(.aload_n 0, 0, 0, 0), (.iload_n 1, 0, 0, 0)] = true := by decide +kernel
theorem k8_orderRefusal_5 : gAt m8_orderRefusal 5 [(.aload_n 0, 0, 0, 0), (.iload_n 2, 0, 0, 0), (.iload_n 3, 0, 0, 0), (.iload 4, 0, 0, 0)] = true := by decide +kernel
theorem k8_orderRefusal_13 : gAt m8_orderRefusal 13 [(.aload_n 0, 0, 0, 0), (.getfield 39, 8, 1, 0), (.iload_n 1, 0, 0, 0), (.iload_n 2, 0, 0, 0), (.iload_n 3, 0, 0, 0), (.iload 4, 0, 0, 0)] = true := by decide +kernel
theorem k8_orderRefusal_25 : gAt m8_orderRefusal 25 [(.ireturn, 0, 0, 0)] = true := by decide +kernel
abbrev m8_worthOf : gM := (8, yX8_worthOf, cX8_worthOf, 3, (some .int), [], none)
theorem k8_worthOf_0 : gAt m8_worthOf 0 [(.aload_n 0, 0, 0, 0), (.iload_n 1, 0, 0, 0)] = true := by decide +kernel
theorem k8_worthOf_5 : gAt m8_worthOf 5 [(.istore_n 2, 0, 0, 0), (.aload_n 0, 0, 0, 0)] = true := by decide +kernel
theorem k8_worthOf_10 : gAt m8_worthOf 10 [(.aload_n 0, 0, 0, 0), (.getfield 46, 8, 3, 0), (.getfield 217, 1, 8, 0), (.iload_n 2, 0, 0, 0), (.iaload, 0, 0, 0), (.aload_n 0, 0, 0, 0), (.getfield 46, 8, 3, 0), (.getfield 207, 1, 1, 0), (.imul, 0, 0, 0), (.ireturn, 0, 0, 0)] = true := by decide +kernel
abbrev m8_coinsAfterCry : gM := (8, yX8_coinsAfterCry, cX8_coinsAfterCry, 2, (some .int), [], none)
theorem k8_coinsAfterCry_0 : gAt m8_coinsAfterCry 0 [(.aload_n 0, 0, 0, 0), (.iload_n 1, 0, 0, 0)] = true := by decide +kernel
theorem k8_coinsAfterCry_5 : gAt m8_coinsAfterCry 5 [(.aload_n 0, 0, 0, 0)] = true := by decide +kernel
theorem k8_coinsAfterCry_9 : gAt m8_coinsAfterCry 9 [(.aload_n 0, 0, 0, 0), (.getfield 39, 8, 1, 0), (.getfield 128, 3, 5, 0), (.getfield 138, 7, 2, 0), (.iload_n 1, 0, 0, 0), (.iaload, 0, 0, 0), (.aload_n 0, 0, 0, 0), (.getfield 46, 8, 3, 0), (.iload_n 1, 0, 0, 0), (.aload_n 0, 0, 0, 0), (.getfield 39, 8, 1, 0), (.getfield 94, 3, 6, 0)] = true := by decide +kernel
theorem k8_coinsAfterCry_36 : gAt m8_coinsAfterCry 36 [(.iadd, 0, 0, 0), (.ireturn, 0, 0, 0)] = true := by decide +kernel
abbrev m8_tradedPieces : gM := (8, yX8_tradedPieces, cX8_tradedPieces, 1, (some .int), [], none)
theorem k8_tradedPieces_0 : gAt m8_tradedPieces 0 [(.aload_n 0, 0, 0, 0), (.getfield 39, 8, 1, 0), (.getfield 256, 3, 7, 0), (.getfield 260, 6, 0, 0), (.ireturn, 0, 0, 0)] = true := by decide +kernel
abbrev m8_goodCries : gM := (8, yX8_goodCries, cX8_goodCries, 1, (some .int), [], none)
theorem k8_goodCries_0 : gAt m8_goodCries 0 [(.aload_n 0, 0, 0, 0), (.getfield 39, 8, 1, 0), (.getfield 256, 3, 7, 0), (.getfield 265, 6, 2, 0), (.ireturn, 0, 0, 0)] = true := by decide +kernel
abbrev m8_stoppedCries : gM := (8, yX8_stoppedCries, cX8_stoppedCries, 1, (some .int), [], none)
theorem k8_stoppedCries_0 : gAt m8_stoppedCries 0 [(.aload_n 0, 0, 0, 0), (.getfield 39, 8, 1, 0), (.getfield 256, 3, 7, 0), (.getfield 268, 6, 3, 0), (.ireturn, 0, 0, 0)] = true := by decide +kernel
abbrev m8_lateOrders : gM := (8, yX8_lateOrders, cX8_lateOrders, 1, (some .int), [], none)
theorem k8_lateOrders_0 : gAt m8_lateOrders 0 [(.aload_n 0, 0, 0, 0), (.getfield 39, 8, 1, 0), (.getfield 256, 3, 7, 0), (.getfield 271, 6, 4, 0), (.ireturn, 0, 0, 0)] = true := by decide +kernel
abbrev m8_coinDifference : gM := (8, yX8_coinDifference, cX8_coinDifference, 1, (some .int), [], none)
theorem k8_coinDifference_0 : gAt m8_coinDifference 0 [(.aload_n 0, 0, 0, 0), (.getfield 39, 8, 1, 0), (.getfield 256, 3, 7, 0), (.getfield 274, 6, 5, 0), (.aload_n 0, 0, 0, 0), (.getfield 39, 8, 1, 0), (.getfield 128, 3, 5, 0)] = true := by decide +kernel
theorem k8_coinDifference_20 : gAt m8_coinDifference 20 [(.isub, 0, 0, 0), (.ireturn, 0, 0, 0)] = true := by decide +kernel
abbrev m8_goodDifference : gM := (8, yX8_goodDifference, cX8_goodDifference, 2, (some .int), [], none)
theorem k8_goodDifference_0 : gAt m8_goodDifference 0 [(.aload_n 0, 0, 0, 0)] = true := by decide +kernel
theorem k8_goodDifference_4 : gAt m8_goodDifference 4 [(.aload_n 0, 0, 0, 0), (.getfield 46, 8, 3, 0), (.iconst 0, 0, 0, 0)] = true := by decide +kernel
theorem k8_goodDifference_12 : gAt m8_goodDifference 12 [(.aload_n 0, 0, 0, 0), (.getfield 46, 8, 3, 0), (.iconst 1, 0, 0, 0)] = true := by decide +kernel
theorem k8_goodDifference_20 : gAt m8_goodDifference 20 [(.isub, 0, 0, 0)] = true := by decide +kernel
theorem k8_goodDifference_24 : gAt m8_goodDifference 24 [(.istore_n 1, 0, 0, 0), (.aload_n 0, 0, 0, 0), (.getfield 39, 8, 1, 0), (.getfield 256, 3, 7, 0), (.getfield 286, 6, 6, 0), (.aload_n 0, 0, 0, 0), (.getfield 39, 8, 1, 0), (.getfield 128, 3, 5, 0)] = true := by decide +kernel
theorem k8_goodDifference_45 : gAt m8_goodDifference 45 [(.isub, 0, 0, 0), (.iload_n 1, 0, 0, 0), (.iadd, 0, 0, 0), (.ireturn, 0, 0, 0)] = true := by decide +kernel
abbrev m8_place : gM := (8, yX8_place, cX8_place, 6, (some .int), [], none)
theorem k8_place_0 : gAt m8_place 0 [(.aload_n 0, 0, 0, 0), (.iload_n 1, 0, 0, 0)] = true := by decide +kernel
theorem k8_place_5 : gAt m8_place 5 [(.aload_n 0, 0, 0, 0), (.iload_n 2, 0, 0, 0), (.iload_n 3, 0, 0, 0), (.iload 4, 0, 0, 0)] = true := by decide +kernel
theorem k8_place_13 : gAt m8_place 13 [(.aload_n 0, 0, 0, 0), (.iload 5, 0, 0, 0), (.iconst 0, 0, 0, 0), (.sipush 999, 0, 0, 0)] = true := by decide +kernel
theorem k8_place_23 : gAt m8_place 23 [(.aload_n 0, 0, 0, 0), (.getfield 39, 8, 1, 0), (.iload_n 1, 0, 0, 0), (.iload_n 2, 0, 0, 0), (.iload_n 3, 0, 0, 0), (.iload 4, 0, 0, 0)] = true := by decide +kernel
theorem k8_place_35 : gAt m8_place 35 [(.ifCond .eq 14, 49, 0, 0)] = true := by decide +kernel
theorem k8_place_41 : gAt m8_place 41 [(.dup, 0, 0, 0)] = true := by decide +kernel
theorem k8_place_49 : gAt m8_place 49 [(.aload_n 0, 0, 0, 0), (.getfield 53, 8, 4, 0), (.aload_n 0, 0, 0, 0), (.getfield 39, 8, 1, 0)] = true := by decide +kernel
theorem k8_place_60 : gAt m8_place 60 [(.aload_n 0, 0, 0, 0), (.getfield 39, 8, 1, 0), (.iload_n 1, 0, 0, 0), (.iload_n 2, 0, 0, 0), (.iload_n 3, 0, 0, 0), (.iload 4, 0, 0, 0), (.iload 5, 0, 0, 0)] = true := by decide +kernel
theorem k8_place_74 : gAt m8_place 74 [(.ireturn, 0, 0, 0)] = true := by decide +kernel
abbrev m8_withdraw : gM := (8, yX8_withdraw, cX8_withdraw, 4, (some .int), [], none)
theorem k8_withdraw_0 : gAt m8_withdraw 0 [(.aload_n 0, 0, 0, 0), (.iload_n 1, 0, 0, 0)] = true := by decide +kernel
theorem k8_withdraw_5 : gAt m8_withdraw 5 [(.istore_n 2, 0, 0, 0), (.aload_n 0, 0, 0, 0), (.getfield 53, 8, 4, 0), (.aload_n 0, 0, 0, 0), (.getfield 39, 8, 1, 0)] = true := by decide +kernel
theorem k8_withdraw_17 : gAt m8_withdraw 17 [(.aload_n 0, 0, 0, 0), (.getfield 39, 8, 1, 0), (.getfield 94, 3, 6, 0), (.getfield 172, 0, 6, 0), (.iload_n 2, 0, 0, 0), (.iaload, 0, 0, 0), (.istore_n 3, 0, 0, 0), (.aload_n 0, 0, 0, 0), (.getfield 39, 8, 1, 0), (.getfield 94, 3, 6, 0), (.iload_n 2, 0, 0, 0)] = true := by decide +kernel
theorem k8_withdraw_41 : gAt m8_withdraw 41 [(.iload_n 3, 0, 0, 0), (.ireturn, 0, 0, 0)] = true := by decide +kernel
abbrev m8_setRule : gM := (8, yX8_setRule, cX8_setRule, 3, (some .int), [], none)
theorem k8_setRule_0 : gAt m8_setRule 0 [(.aload_n 0, 0, 0, 0), (.iload_n 1, 0, 0, 0), (.iconst 0, 0, 0, 0), (.iconst 1, 0, 0, 0)] = true := by decide +kernel
theorem k8_setRule_7 : gAt m8_setRule 7 [(.aload_n 0, 0, 0, 0), (.getfield 53, 8, 4, 0), (.aload_n 0, 0, 0, 0), (.getfield 39, 8, 1, 0)] = true := by decide +kernel
theorem k8_setRule_18 : gAt m8_setRule 18 [(.aload_n 0, 0, 0, 0), (.getfield 39, 8, 1, 0), (.getfield 118, 3, 3, 0), (.istore_n 2, 0, 0, 0), (.aload_n 0, 0, 0, 0), (.getfield 39, 8, 1, 0), (.iload_n 1, 0, 0, 0), (.putfield 118, 3, 3, 0), (.iload_n 2, 0, 0, 0), (.ireturn, 0, 0, 0)] = true := by decide +kernel
abbrev m8_setBand : gM := (8, yX8_setBand, cX8_setBand, 3, (some .int), [], none)
theorem k8_setBand_0 : gAt m8_setBand 0 [(.aload_n 0, 0, 0, 0), (.iload_n 1, 0, 0, 0), (.iconst 0, 0, 0, 0), (.sipush 999, 0, 0, 0)] = true := by decide +kernel
theorem k8_setBand_9 : gAt m8_setBand 9 [(.aload_n 0, 0, 0, 0), (.getfield 53, 8, 4, 0), (.aload_n 0, 0, 0, 0), (.getfield 39, 8, 1, 0)] = true := by decide +kernel
theorem k8_setBand_20 : gAt m8_setBand 20 [(.aload_n 0, 0, 0, 0), (.getfield 39, 8, 1, 0), (.getfield 115, 3, 2, 0), (.istore_n 2, 0, 0, 0), (.aload_n 0, 0, 0, 0), (.getfield 39, 8, 1, 0), (.iload_n 1, 0, 0, 0), (.putfield 115, 3, 2, 0), (.iload_n 2, 0, 0, 0), (.ireturn, 0, 0, 0)] = true := by decide +kernel
abbrev m8_pay : gM := (8, yX8_pay, cX8_pay, 3, (some .int), [], none)
theorem k8_pay_0 : gAt m8_pay 0 [(.aload_n 0, 0, 0, 0), (.iload_n 1, 0, 0, 0)] = true := by decide +kernel
theorem k8_pay_5 : gAt m8_pay 5 [(.aload_n 0, 0, 0, 0), (.iload_n 2, 0, 0, 0), (.iconst 1, 0, 0, 0), (.ldc_w 308, 0, 10, 0)] = true := by decide +kernel
theorem k8_pay_14 : gAt m8_pay 14 [(.aload_n 0, 0, 0, 0), (.getfield 39, 8, 1, 0), (.getfield 128, 3, 5, 0), (.getfield 138, 7, 2, 0), (.iload_n 1, 0, 0, 0), (.iaload, 0, 0, 0), (.ldc_w 309, 0, 11, 0), (.iload_n 2, 0, 0, 0), (.isub, 0, 0, 0), (.if_icmp .le 14, 45, 0, 0)] = true := by decide +kernel
theorem k8_pay_37 : gAt m8_pay 37 [(.dup, 0, 0, 0)] = true := by decide +kernel
theorem k8_pay_45 : gAt m8_pay 45 [(.aload_n 0, 0, 0, 0), (.getfield 53, 8, 4, 0), (.aload_n 0, 0, 0, 0), (.getfield 39, 8, 1, 0)] = true := by decide +kernel
theorem k8_pay_56 : gAt m8_pay 56 [(.aload_n 0, 0, 0, 0), (.getfield 39, 8, 1, 0), (.getfield 128, 3, 5, 0), (.getfield 138, 7, 2, 0), (.iload_n 1, 0, 0, 0), (.dup2, 0, 0, 0), (.iaload, 0, 0, 0), (.iload_n 2, 0, 0, 0), (.iadd, 0, 0, 0), (.iastore, 0, 0, 0), (.aload_n 0, 0, 0, 0), (.getfield 39, 8, 1, 0), (.getfield 256, 3, 7, 0), (.dup, 0, 0, 0), (.getfield 274, 6, 5, 0), (.iload_n 2, 0, 0, 0), (.iadd, 0, 0, 0), (.putfield 274, 6, 5, 0), (.aload_n 0, 0, 0, 0), (.getfield 39, 8, 1, 0), (.getfield 128, 3, 5, 0), (.getfield 138, 7, 2, 0), (.iload_n 1, 0, 0, 0), (.iaload, 0, 0, 0), (.ireturn, 0, 0, 0)] = true := by decide +kernel
abbrev m8_cry : gM := (8, yX8_cry, cX8_cry, 1, (some .int), [], none)
theorem k8_cry_0 : gAt m8_cry 0 [(.aload_n 0, 0, 0, 0), (.getfield 53, 8, 4, 0), (.aload_n 0, 0, 0, 0), (.getfield 39, 8, 1, 0)] = true := by decide +kernel
theorem k8_cry_11 : gAt m8_cry 11 [(.aload_n 0, 0, 0, 0), (.getfield 39, 8, 1, 0), (.aload_n 0, 0, 0, 0), (.getfield 46, 8, 3, 0)] = true := by decide +kernel
theorem k8_cry_22 : gAt m8_cry 22 [(.ireturn, 0, 0, 0)] = true := by decide +kernel
abbrev m8_pass : gM := (8, yX8_pass, cX8_pass, 2, (some .int), [], none)
theorem k8_pass_0 : gAt m8_pass 0 [(.aload_n 0, 0, 0, 0), (.iload_n 1, 0, 0, 0), (.iconst 1, 0, 0, 0), (.sipush 300, 0, 0, 0)] = true := by decide +kernel
theorem k8_pass_9 : gAt m8_pass 9 [(.aload_n 0, 0, 0, 0), (.getfield 53, 8, 4, 0), (.aload_n 0, 0, 0, 0), (.getfield 39, 8, 1, 0)] = true := by decide +kernel
theorem k8_pass_20 : gAt m8_pass 20 [(.aload_n 0, 0, 0, 0), (.getfield 39, 8, 1, 0), (.iload_n 1, 0, 0, 0), (.aload_n 0, 0, 0, 0), (.getfield 46, 8, 3, 0)] = true := by decide +kernel
theorem k8_pass_32 : gAt m8_pass 32 [(.ireturn, 0, 0, 0)] = true := by decide +kernel
abbrev m8_undo : gM := (8, yX8_undo, cX8_undo, 1, (some .int), [], none)
theorem k8_undo_0 : gAt m8_undo 0 [(.aload_n 0, 0, 0, 0), (.getfield 53, 8, 4, 0), (.getfield 325, 2, 0, 0), (.ifCond .ne 14, 21, 0, 0)] = true := by decide +kernel
theorem k8_undo_13 : gAt m8_undo 13 [(.dup, 0, 0, 0)] = true := by decide +kernel
theorem k8_undo_21 : gAt m8_undo 21 [(.aload_n 0, 0, 0, 0), (.getfield 53, 8, 4, 0), (.aload_n 0, 0, 0, 0), (.getfield 39, 8, 1, 0)] = true := by decide +kernel
theorem k8_undo_32 : gAt m8_undo 32 [(.aload_n 0, 0, 0, 0), (.getfield 53, 8, 4, 0), (.getfield 325, 2, 0, 0), (.ireturn, 0, 0, 0)] = true := by decide +kernel
abbrev m8_needTrader : gM := (8, yX8_needTrader, cX8_needTrader, 2, none, [], none)
theorem k8_needTrader_0 : gAt m8_needTrader 0 [(.iload_n 1, 0, 0, 0), (.ifCond .lt 17, 18, 0, 0), (.iload_n 1, 0, 0, 0), (.aload_n 0, 0, 0, 0), (.getfield 39, 8, 1, 0), (.getfield 128, 3, 5, 0), (.getfield 132, 7, 0, 0), (.if_icmp .lt 14, 29, 0, 0)] = true := by decide +kernel
theorem k8_needTrader_21 : gAt m8_needTrader 21 [(.dup, 0, 0, 0)] = true := by decide +kernel
theorem k8_needTrader_29 : gAt m8_needTrader 29 [(.return_, 0, 0, 0)] = true := by decide +kernel
abbrev m8_needOrder : gM := (8, yX8_needOrder, cX8_needOrder, 3, (some .int), [], none)
theorem k8_needOrder_0 : gAt m8_needOrder 0 [(.aload_n 0, 0, 0, 0), (.getfield 39, 8, 1, 0), (.getfield 94, 3, 6, 0), (.iload_n 1, 0, 0, 0)] = true := by decide +kernel
theorem k8_needOrder_11 : gAt m8_needOrder 11 [(.istore_n 2, 0, 0, 0), (.iload_n 2, 0, 0, 0), (.ifCond .ge 13, 26, 0, 0)] = true := by decide +kernel
theorem k8_needOrder_19 : gAt m8_needOrder 19 [(.dup, 0, 0, 0)] = true := by decide +kernel
theorem k8_needOrder_26 : gAt m8_needOrder 26 [(.iload_n 2, 0, 0, 0), (.ireturn, 0, 0, 0)] = true := by decide +kernel
abbrev m8_needRange : gM := (8, yX8_needRange, cX8_needRange, 4, none, [], none)
theorem k8_needRange_0 : gAt m8_needRange 0 [(.iload_n 1, 0, 0, 0), (.iload_n 2, 0, 0, 0), (.if_icmp .lt 8, 10, 0, 0), (.iload_n 1, 0, 0, 0), (.iload_n 3, 0, 0, 0), (.if_icmp .le 14, 21, 0, 0)] = true := by decide +kernel
theorem k8_needRange_13 : gAt m8_needRange 13 [(.dup, 0, 0, 0)] = true := by decide +kernel
theorem k8_needRange_21 : gAt m8_needRange 21 [(.return_, 0, 0, 0)] = true := by decide +kernel
abbrev m8_needOrderForm : gM := (8, yX8_needOrderForm, cX8_needOrderForm, 4, none, [], none)
theorem k8_needOrderForm_0 : gAt m8_needOrderForm 0 [(.aload_n 0, 0, 0, 0), (.iload_n 1, 0, 0, 0), (.iconst 0, 0, 0, 0), (.iconst 1, 0, 0, 0)] = true := by decide +kernel
theorem k8_needOrderForm_7 : gAt m8_needOrderForm 7 [(.aload_n 0, 0, 0, 0), (.iload_n 2, 0, 0, 0), (.iconst 1, 0, 0, 0), (.sipush 999, 0, 0, 0)] = true := by decide +kernel
theorem k8_needOrderForm_16 : gAt m8_needOrderForm 16 [(.aload_n 0, 0, 0, 0), (.iload_n 3, 0, 0, 0), (.iconst 1, 0, 0, 0), (.bipush 99, 0, 0, 0)] = true := by decide +kernel
theorem k8_needOrderForm_24 : gAt m8_needOrderForm 24 [(.return_, 0, 0, 0)] = true := by decide +kernel
abbrev m8_bestLimit : gM := (8, yX8_bestLimit, cX8_bestLimit, 3, (some .int), [], none)
theorem k8_bestLimit_0 : gAt m8_bestLimit 0 [(.aload_n 0, 0, 0, 0), (.getfield 46, 8, 3, 0), (.aload_n 0, 0, 0, 0), (.getfield 39, 8, 1, 0), (.getfield 94, 3, 6, 0)] = true := by decide +kernel
theorem k8_bestLimit_14 : gAt m8_bestLimit 14 [(.aload_n 0, 0, 0, 0), (.getfield 46, 8, 3, 0), (.iload_n 1, 0, 0, 0)] = true := by decide +kernel
theorem k8_bestLimit_22 : gAt m8_bestLimit 22 [(.istore_n 2, 0, 0, 0), (.iload_n 2, 0, 0, 0), (.ifCond .ne 7, 31, 0, 0), (.iconst (-1), 0, 0, 0), (.goto 20, 48, 0, 0)] = true := by decide +kernel
theorem k8_bestLimit_31 : gAt m8_bestLimit 31 [(.aload_n 0, 0, 0, 0), (.getfield 46, 8, 3, 0), (.getfield 371, 1, 6, 0), (.aload_n 0, 0, 0, 0), (.getfield 46, 8, 3, 0), (.getfield 338, 1, 9, 0), (.iconst 0, 0, 0, 0), (.iaload, 0, 0, 0), (.iaload, 0, 0, 0)] = true := by decide +kernel
theorem k8_bestLimit_48 : gAt m8_bestLimit 48 [(.ireturn, 0, 0, 0)] = true := by decide +kernel
abbrev m8_crossNow : gM := (8, yX8_crossNow, cX8_crossNow, 1, none, [], none)
theorem k8_crossNow_0 : gAt m8_crossNow 0 [(.aload_n 0, 0, 0, 0), (.getfield 46, 8, 3, 0), (.aload_n 0, 0, 0, 0), (.getfield 39, 8, 1, 0), (.getfield 94, 3, 6, 0)] = true := by decide +kernel
theorem k8_crossNow_14 : gAt m8_crossNow 14 [(.aload_n 0, 0, 0, 0), (.getfield 46, 8, 3, 0), (.aload_n 0, 0, 0, 0), (.getfield 39, 8, 1, 0), (.getfield 112, 3, 1, 0)] = true := by decide +kernel
theorem k8_crossNow_28 : gAt m8_crossNow 28 [(.aload_n 0, 0, 0, 0), (.getfield 46, 8, 3, 0), (.iconst 0, 0, 0, 0), (.aload_n 0, 0, 0, 0), (.getfield 39, 8, 1, 0), (.getfield 118, 3, 3, 0)] = true := by decide +kernel
theorem k8_crossNow_43 : gAt m8_crossNow 43 [(.aload_n 0, 0, 0, 0), (.getfield 46, 8, 3, 0), (.iconst 1, 0, 0, 0), (.aload_n 0, 0, 0, 0), (.getfield 39, 8, 1, 0), (.getfield 118, 3, 3, 0)] = true := by decide +kernel
theorem k8_crossNow_58 : gAt m8_crossNow 58 [(.return_, 0, 0, 0)] = true := by decide +kernel
