abbrev mL_append : gM := (10, yL_append, cL_append, 8, (some .int), [(0, 16, 19, 13)], none)
theorem kL_append_0 : gAt mL_append 0 [(.aload 6, 0, 0, 0), (.iconst 0, 0, 0, 0), (.aload_n 0, 0, 0, 0), (.iload_n 1, 0, 0, 0), (.iload_n 2, 0, 0, 0), (.iload_n 3, 0, 0, 0), (.iload 4, 0, 0, 0), (.iload 5, 0, 0, 0)] = true := by decide +kernel
theorem kL_append_14 : gAt mL_append 14 [(.i2l, 0, 0, 0), (.lastore, 0, 0, 0), (.goto 7, 23, 0, 0)] = true := by decide +kernel
theorem kL_append_19 : gAt mL_append 19 [(.astore 7, 0, 0, 0), (.iconst 1, 0, 0, 0), (.ireturn, 0, 0, 0)] = true := by decide +kernel
theorem kL_append_23 : gAt mL_append 23 [(.iconst 0, 0, 0, 0), (.ireturn, 0, 0, 0)] = true := by decide +kernel
abbrev mL_truncate : gM := (10, yL_truncate, cL_truncate, 4, (some .int), [(0, 9, 12, 19)], none)
theorem kL_truncate_0 : gAt mL_truncate 0 [(.aload_n 2, 0, 0, 0), (.iconst 0, 0, 0, 0), (.aload_n 0, 0, 0, 0), (.iload_n 1, 0, 0, 0)] = true := by decide +kernel
theorem kL_truncate_7 : gAt mL_truncate 7 [(.i2l, 0, 0, 0), (.lastore, 0, 0, 0), (.goto 6, 15, 0, 0)] = true := by decide +kernel
theorem kL_truncate_12 : gAt mL_truncate 12 [(.astore_n 3, 0, 0, 0), (.iconst 1, 0, 0, 0), (.ireturn, 0, 0, 0)] = true := by decide +kernel
theorem kL_truncate_15 : gAt mL_truncate 15 [(.iconst 0, 0, 0, 0), (.ireturn, 0, 0, 0)] = true := by decide +kernel
abbrev mL_coinsOf : gM := (10, yL_coinsOf, cL_coinsOf, 4, (some .int), [(0, 9, 12, 24)], none)
theorem kL_coinsOf_0 : gAt mL_coinsOf 0 [(.aload_n 2, 0, 0, 0), (.iconst 0, 0, 0, 0), (.aload_n 0, 0, 0, 0), (.iload_n 1, 0, 0, 0)] = true := by decide +kernel
theorem kL_coinsOf_7 : gAt mL_coinsOf 7 [(.i2l, 0, 0, 0), (.lastore, 0, 0, 0), (.goto 6, 15, 0, 0)] = true := by decide +kernel
theorem kL_coinsOf_12 : gAt mL_coinsOf 12 [(.astore_n 3, 0, 0, 0), (.iconst 1, 0, 0, 0), (.ireturn, 0, 0, 0)] = true := by decide +kernel
theorem kL_coinsOf_15 : gAt mL_coinsOf 15 [(.iconst 0, 0, 0, 0), (.ireturn, 0, 0, 0)] = true := by decide +kernel
abbrev mL_goodsOf : gM := (10, yL_goodsOf, cL_goodsOf, 4, (some .int), [(0, 9, 12, 24)], none)
theorem kL_goodsOf_0 : gAt mL_goodsOf 0 [(.aload_n 2, 0, 0, 0), (.iconst 0, 0, 0, 0), (.aload_n 0, 0, 0, 0), (.iload_n 1, 0, 0, 0)] = true := by decide +kernel
theorem kL_goodsOf_7 : gAt mL_goodsOf 7 [(.i2l, 0, 0, 0), (.lastore, 0, 0, 0), (.goto 6, 15, 0, 0)] = true := by decide +kernel
theorem kL_goodsOf_12 : gAt mL_goodsOf 12 [(.astore_n 3, 0, 0, 0), (.iconst 1, 0, 0, 0), (.ireturn, 0, 0, 0)] = true := by decide +kernel
theorem kL_goodsOf_15 : gAt mL_goodsOf 15 [(.iconst 0, 0, 0, 0), (.ireturn, 0, 0, 0)] = true := by decide +kernel
abbrev mL_freeCoins : gM := (10, yL_freeCoins, cL_freeCoins, 4, (some .int), [(0, 9, 12, 24)], none)
theorem kL_freeCoins_0 : gAt mL_freeCoins 0 [(.aload_n 2, 0, 0, 0), (.iconst 0, 0, 0, 0), (.aload_n 0, 0, 0, 0), (.iload_n 1, 0, 0, 0)] = true := by decide +kernel
theorem kL_freeCoins_7 : gAt mL_freeCoins 7 [(.i2l, 0, 0, 0), (.lastore, 0, 0, 0), (.goto 6, 15, 0, 0)] = true := by decide +kernel
theorem kL_freeCoins_12 : gAt mL_freeCoins 12 [(.astore_n 3, 0, 0, 0), (.iconst 1, 0, 0, 0), (.ireturn, 0, 0, 0)] = true := by decide +kernel
theorem kL_freeCoins_15 : gAt mL_freeCoins 15 [(.iconst 0, 0, 0, 0), (.ireturn, 0, 0, 0)] = true := by decide +kernel
abbrev mL_freeGoods : gM := (10, yL_freeGoods, cL_freeGoods, 4, (some .int), [(0, 9, 12, 24)], none)
theorem kL_freeGoods_0 : gAt mL_freeGoods 0 [(.aload_n 2, 0, 0, 0), (.iconst 0, 0, 0, 0), (.aload_n 0, 0, 0, 0), (.iload_n 1, 0, 0, 0)] = true := by decide +kernel
theorem kL_freeGoods_7 : gAt mL_freeGoods 7 [(.i2l, 0, 0, 0), (.lastore, 0, 0, 0), (.goto 6, 15, 0, 0)] = true := by decide +kernel
theorem kL_freeGoods_12 : gAt mL_freeGoods 12 [(.astore_n 3, 0, 0, 0), (.iconst 1, 0, 0, 0), (.ireturn, 0, 0, 0)] = true := by decide +kernel
theorem kL_freeGoods_15 : gAt mL_freeGoods 15 [(.iconst 0, 0, 0, 0), (.ireturn, 0, 0, 0)] = true := by decide +kernel
abbrev mL_orderAt : gM := (10, yL_orderAt, cL_orderAt, 4, (some .int), [(0, 9, 12, 24)], none)
theorem kL_orderAt_0 : gAt mL_orderAt 0 [(.aload_n 2, 0, 0, 0), (.iconst 0, 0, 0, 0), (.aload_n 0, 0, 0, 0), (.iload_n 1, 0, 0, 0)] = true := by decide +kernel
theorem kL_orderAt_7 : gAt mL_orderAt 7 [(.i2l, 0, 0, 0), (.lastore, 0, 0, 0), (.goto 6, 15, 0, 0)] = true := by decide +kernel
theorem kL_orderAt_12 : gAt mL_orderAt 12 [(.astore_n 3, 0, 0, 0), (.iconst 1, 0, 0, 0), (.ireturn, 0, 0, 0)] = true := by decide +kernel
theorem kL_orderAt_15 : gAt mL_orderAt 15 [(.iconst 0, 0, 0, 0), (.ireturn, 0, 0, 0)] = true := by decide +kernel
abbrev mL_traderOf : gM := (10, yL_traderOf, cL_traderOf, 4, (some .int), [(0, 9, 12, 41)], none)
theorem kL_traderOf_0 : gAt mL_traderOf 0 [(.aload_n 2, 0, 0, 0), (.iconst 0, 0, 0, 0), (.aload_n 0, 0, 0, 0), (.iload_n 1, 0, 0, 0)] = true := by decide +kernel
theorem kL_traderOf_7 : gAt mL_traderOf 7 [(.i2l, 0, 0, 0), (.lastore, 0, 0, 0), (.goto 6, 15, 0, 0)] = true := by decide +kernel
theorem kL_traderOf_12 : gAt mL_traderOf 12 [(.astore_n 3, 0, 0, 0), (.iconst 1, 0, 0, 0), (.ireturn, 0, 0, 0)] = true := by decide +kernel
theorem kL_traderOf_15 : gAt mL_traderOf 15 [(.iconst 0, 0, 0, 0), (.ireturn, 0, 0, 0)] = true := by decide +kernel
abbrev mL_sideOf : gM := (10, yL_sideOf, cL_sideOf, 4, (some .int), [(0, 9, 12, 41)], none)
theorem kL_sideOf_0 : gAt mL_sideOf 0 [(.aload_n 2, 0, 0, 0), (.iconst 0, 0, 0, 0), (.aload_n 0, 0, 0, 0), (.iload_n 1, 0, 0, 0)] = true := by decide +kernel
theorem kL_sideOf_7 : gAt mL_sideOf 7 [(.i2l, 0, 0, 0), (.lastore, 0, 0, 0), (.goto 6, 15, 0, 0)] = true := by decide +kernel
theorem kL_sideOf_12 : gAt mL_sideOf 12 [(.astore_n 3, 0, 0, 0), (.iconst 1, 0, 0, 0), (.ireturn, 0, 0, 0)] = true := by decide +kernel
theorem kL_sideOf_15 : gAt mL_sideOf 15 [(.iconst 0, 0, 0, 0), (.ireturn, 0, 0, 0)] = true := by decide +kernel
abbrev mL_limitOf : gM := (10, yL_limitOf, cL_limitOf, 4, (some .int), [(0, 9, 12, 41)], none)
theorem kL_limitOf_0 : gAt mL_limitOf 0 [(.aload_n 2, 0, 0, 0), (.iconst 0, 0, 0, 0), (.aload_n 0, 0, 0, 0), (.iload_n 1, 0, 0, 0)] = true := by decide +kernel
theorem kL_limitOf_7 : gAt mL_limitOf 7 [(.i2l, 0, 0, 0), (.lastore, 0, 0, 0), (.goto 6, 15, 0, 0)] = true := by decide +kernel
theorem kL_limitOf_12 : gAt mL_limitOf 12 [(.astore_n 3, 0, 0, 0), (.iconst 1, 0, 0, 0), (.ireturn, 0, 0, 0)] = true := by decide +kernel
theorem kL_limitOf_15 : gAt mL_limitOf 15 [(.iconst 0, 0, 0, 0), (.ireturn, 0, 0, 0)] = true := by decide +kernel
abbrev mL_quantityOf : gM := (10, yL_quantityOf, cL_quantityOf, 4, (some .int), [(0, 9, 12, 41)], none)
theorem kL_quantityOf_0 : gAt mL_quantityOf 0 [(.aload_n 2, 0, 0, 0), (.iconst 0, 0, 0, 0), (.aload_n 0, 0, 0, 0), (.iload_n 1, 0, 0, 0)] = true := by decide +kernel
theorem kL_quantityOf_7 : gAt mL_quantityOf 7 [(.i2l, 0, 0, 0), (.lastore, 0, 0, 0), (.goto 6, 15, 0, 0)] = true := by decide +kernel
theorem kL_quantityOf_12 : gAt mL_quantityOf 12 [(.astore_n 3, 0, 0, 0), (.iconst 1, 0, 0, 0), (.ireturn, 0, 0, 0)] = true := by decide +kernel
theorem kL_quantityOf_15 : gAt mL_quantityOf 15 [(.iconst 0, 0, 0, 0), (.ireturn, 0, 0, 0)] = true := by decide +kernel
abbrev mL_minutesLeft : gM := (10, yL_minutesLeft, cL_minutesLeft, 4, (some .int), [(0, 9, 12, 41)], none)
theorem kL_minutesLeft_0 : gAt mL_minutesLeft 0 [(.aload_n 2, 0, 0, 0), (.iconst 0, 0, 0, 0), (.aload_n 0, 0, 0, 0), (.iload_n 1, 0, 0, 0)] = true := by decide +kernel
theorem kL_minutesLeft_7 : gAt mL_minutesLeft 7 [(.i2l, 0, 0, 0), (.lastore, 0, 0, 0), (.goto 6, 15, 0, 0)] = true := by decide +kernel
theorem kL_minutesLeft_12 : gAt mL_minutesLeft 12 [(.astore_n 3, 0, 0, 0), (.iconst 1, 0, 0, 0), (.ireturn, 0, 0, 0)] = true := by decide +kernel
theorem kL_minutesLeft_15 : gAt mL_minutesLeft 15 [(.iconst 0, 0, 0, 0), (.ireturn, 0, 0, 0)] = true := by decide +kernel
abbrev mL_rankOf : gM := (10, yL_rankOf, cL_rankOf, 4, (some .int), [(0, 9, 12, 41)], none)
theorem kL_rankOf_0 : gAt mL_rankOf 0 [(.aload_n 2, 0, 0, 0), (.iconst 0, 0, 0, 0), (.aload_n 0, 0, 0, 0), (.iload_n 1, 0, 0, 0)] = true := by decide +kernel
theorem kL_rankOf_7 : gAt mL_rankOf 7 [(.i2l, 0, 0, 0), (.lastore, 0, 0, 0), (.goto 6, 15, 0, 0)] = true := by decide +kernel
theorem kL_rankOf_12 : gAt mL_rankOf 12 [(.astore_n 3, 0, 0, 0), (.iconst 1, 0, 0, 0), (.ireturn, 0, 0, 0)] = true := by decide +kernel
theorem kL_rankOf_15 : gAt mL_rankOf 15 [(.iconst 0, 0, 0, 0), (.ireturn, 0, 0, 0)] = true := by decide +kernel
abbrev mL_demandAt : gM := (10, yL_demandAt, cL_demandAt, 4, (some .int), [(0, 9, 12, 19)], none)
theorem kL_demandAt_0 : gAt mL_demandAt 0 [(.aload_n 2, 0, 0, 0), (.iconst 0, 0, 0, 0), (.aload_n 0, 0, 0, 0), (.iload_n 1, 0, 0, 0)] = true := by decide +kernel
theorem kL_demandAt_7 : gAt mL_demandAt 7 [(.i2l, 0, 0, 0), (.lastore, 0, 0, 0), (.goto 6, 15, 0, 0)] = true := by decide +kernel
theorem kL_demandAt_12 : gAt mL_demandAt 12 [(.astore_n 3, 0, 0, 0), (.iconst 1, 0, 0, 0), (.ireturn, 0, 0, 0)] = true := by decide +kernel
theorem kL_demandAt_15 : gAt mL_demandAt 15 [(.iconst 0, 0, 0, 0), (.ireturn, 0, 0, 0)] = true := by decide +kernel
abbrev mL_supplyAt : gM := (10, yL_supplyAt, cL_supplyAt, 4, (some .int), [(0, 9, 12, 19)], none)
theorem kL_supplyAt_0 : gAt mL_supplyAt 0 [(.aload_n 2, 0, 0, 0), (.iconst 0, 0, 0, 0), (.aload_n 0, 0, 0, 0), (.iload_n 1, 0, 0, 0)] = true := by decide +kernel
theorem kL_supplyAt_7 : gAt mL_supplyAt 7 [(.i2l, 0, 0, 0), (.lastore, 0, 0, 0), (.goto 6, 15, 0, 0)] = true := by decide +kernel
theorem kL_supplyAt_12 : gAt mL_supplyAt 12 [(.astore_n 3, 0, 0, 0), (.iconst 1, 0, 0, 0), (.ireturn, 0, 0, 0)] = true := by decide +kernel
theorem kL_supplyAt_15 : gAt mL_supplyAt 15 [(.iconst 0, 0, 0, 0), (.ireturn, 0, 0, 0)] = true := by decide +kernel
abbrev mL_volumeAt : gM := (10, yL_volumeAt, cL_volumeAt, 4, (some .int), [(0, 9, 12, 19)], none)
theorem kL_volumeAt_0 : gAt mL_volumeAt 0 [(.aload_n 2, 0, 0, 0), (.iconst 0, 0, 0, 0), (.aload_n 0, 0, 0, 0), (.iload_n 1, 0, 0, 0)] = true := by decide +kernel
theorem kL_volumeAt_7 : gAt mL_volumeAt 7 [(.i2l, 0, 0, 0), (.lastore, 0, 0, 0), (.goto 6, 15, 0, 0)] = true := by decide +kernel
theorem kL_volumeAt_12 : gAt mL_volumeAt 12 [(.astore_n 3, 0, 0, 0), (.iconst 1, 0, 0, 0), (.ireturn, 0, 0, 0)] = true := by decide +kernel
theorem kL_volumeAt_15 : gAt mL_volumeAt 15 [(.iconst 0, 0, 0, 0), (.ireturn, 0, 0, 0)] = true := by decide +kernel
abbrev mL_excessAt : gM := (10, yL_excessAt, cL_excessAt, 4, (some .int), [(0, 9, 12, 19)], none)
theorem kL_excessAt_0 : gAt mL_excessAt 0 [(.aload_n 2, 0, 0, 0), (.iconst 0, 0, 0, 0), (.aload_n 0, 0, 0, 0), (.iload_n 1, 0, 0, 0)] = true := by decide +kernel
theorem kL_excessAt_7 : gAt mL_excessAt 7 [(.i2l, 0, 0, 0), (.lastore, 0, 0, 0), (.goto 6, 15, 0, 0)] = true := by decide +kernel
theorem kL_excessAt_12 : gAt mL_excessAt 12 [(.astore_n 3, 0, 0, 0), (.iconst 1, 0, 0, 0), (.ireturn, 0, 0, 0)] = true := by decide +kernel
theorem kL_excessAt_15 : gAt mL_excessAt 15 [(.iconst 0, 0, 0, 0), (.ireturn, 0, 0, 0)] = true := by decide +kernel
abbrev mL_fillOf : gM := (10, yL_fillOf, cL_fillOf, 4, (some .int), [(0, 9, 12, 41)], none)
theorem kL_fillOf_0 : gAt mL_fillOf 0 [(.aload_n 2, 0, 0, 0), (.iconst 0, 0, 0, 0), (.aload_n 0, 0, 0, 0), (.iload_n 1, 0, 0, 0)] = true := by decide +kernel
theorem kL_fillOf_7 : gAt mL_fillOf 7 [(.i2l, 0, 0, 0), (.lastore, 0, 0, 0), (.goto 6, 15, 0, 0)] = true := by decide +kernel
theorem kL_fillOf_12 : gAt mL_fillOf 12 [(.astore_n 3, 0, 0, 0), (.iconst 1, 0, 0, 0), (.ireturn, 0, 0, 0)] = true := by decide +kernel
theorem kL_fillOf_15 : gAt mL_fillOf 15 [(.iconst 0, 0, 0, 0), (.ireturn, 0, 0, 0)] = true := by decide +kernel
abbrev mL_lastLimit : gM := (10, yL_lastLimit, cL_lastLimit, 4, (some .int), [(0, 9, 12, 19)], none)
theorem kL_lastLimit_0 : gAt mL_lastLimit 0 [(.aload_n 2, 0, 0, 0), (.iconst 0, 0, 0, 0), (.aload_n 0, 0, 0, 0), (.iload_n 1, 0, 0, 0)] = true := by decide +kernel
theorem kL_lastLimit_7 : gAt mL_lastLimit 7 [(.i2l, 0, 0, 0), (.lastore, 0, 0, 0), (.goto 6, 15, 0, 0)] = true := by decide +kernel
theorem kL_lastLimit_12 : gAt mL_lastLimit 12 [(.astore_n 3, 0, 0, 0), (.iconst 1, 0, 0, 0), (.ireturn, 0, 0, 0)] = true := by decide +kernel
theorem kL_lastLimit_15 : gAt mL_lastLimit 15 [(.iconst 0, 0, 0, 0), (.ireturn, 0, 0, 0)] = true := by decide +kernel
abbrev mL_priceWithout : gM := (10, yL_priceWithout, cL_priceWithout, 4, (some .int), [(0, 9, 12, 41)], none)
theorem kL_priceWithout_0 : gAt mL_priceWithout 0 [(.aload_n 2, 0, 0, 0), (.iconst 0, 0, 0, 0), (.aload_n 0, 0, 0, 0), (.iload_n 1, 0, 0, 0)] = true := by decide +kernel
theorem kL_priceWithout_7 : gAt mL_priceWithout 7 [(.i2l, 0, 0, 0), (.lastore, 0, 0, 0), (.goto 6, 15, 0, 0)] = true := by decide +kernel
theorem kL_priceWithout_12 : gAt mL_priceWithout 12 [(.astore_n 3, 0, 0, 0), (.iconst 1, 0, 0, 0), (.ireturn, 0, 0, 0)] = true := by decide +kernel
theorem kL_priceWithout_15 : gAt mL_priceWithout 15 [(.iconst 0, 0, 0, 0), (.ireturn, 0, 0, 0)] = true := by decide +kernel
abbrev mL_volumeWithout : gM := (10, yL_volumeWithout, cL_volumeWithout, 4, (some .int), [(0, 9, 12, 41)], none)
theorem kL_volumeWithout_0 : gAt mL_volumeWithout 0 [(.aload_n 2, 0, 0, 0), (.iconst 0, 0, 0, 0), (.aload_n 0, 0, 0, 0), (.iload_n 1, 0, 0, 0)] = true := by decide +kernel
theorem kL_volumeWithout_7 : gAt mL_volumeWithout 7 [(.i2l, 0, 0, 0), (.lastore, 0, 0, 0), (.goto 6, 15, 0, 0)] = true := by decide +kernel
theorem kL_volumeWithout_12 : gAt mL_volumeWithout 12 [(.astore_n 3, 0, 0, 0), (.iconst 1, 0, 0, 0), (.ireturn, 0, 0, 0)] = true := by decide +kernel
theorem kL_volumeWithout_15 : gAt mL_volumeWithout 15 [(.iconst 0, 0, 0, 0), (.ireturn, 0, 0, 0)] = true := by decide +kernel
abbrev mL_priceWith : gM := (10, yL_priceWith, cL_priceWith, 6, (some .int), [(0, 12, 15, 19)], none)
theorem kL_priceWith_0 : gAt mL_priceWith 0 [(.aload 4, 0, 0, 0), (.iconst 0, 0, 0, 0), (.aload_n 0, 0, 0, 0), (.iload_n 1, 0, 0, 0), (.iload_n 2, 0, 0, 0), (.iload_n 3, 0, 0, 0)] = true := by decide +kernel
theorem kL_priceWith_10 : gAt mL_priceWith 10 [(.i2l, 0, 0, 0), (.lastore, 0, 0, 0), (.goto 7, 19, 0, 0)] = true := by decide +kernel
theorem kL_priceWith_15 : gAt mL_priceWith 15 [(.astore 5, 0, 0, 0), (.iconst 1, 0, 0, 0), (.ireturn, 0, 0, 0)] = true := by decide +kernel
theorem kL_priceWith_19 : gAt mL_priceWith 19 [(.iconst 0, 0, 0, 0), (.ireturn, 0, 0, 0)] = true := by decide +kernel
abbrev mL_fillWith : gM := (10, yL_fillWith, cL_fillWith, 6, (some .int), [(0, 12, 15, 19)], none)
theorem kL_fillWith_0 : gAt mL_fillWith 0 [(.aload 4, 0, 0, 0), (.iconst 0, 0, 0, 0), (.aload_n 0, 0, 0, 0), (.iload_n 1, 0, 0, 0), (.iload_n 2, 0, 0, 0), (.iload_n 3, 0, 0, 0)] = true := by decide +kernel
theorem kL_fillWith_10 : gAt mL_fillWith 10 [(.i2l, 0, 0, 0), (.lastore, 0, 0, 0), (.goto 7, 19, 0, 0)] = true := by decide +kernel
theorem kL_fillWith_15 : gAt mL_fillWith 15 [(.astore 5, 0, 0, 0), (.iconst 1, 0, 0, 0), (.ireturn, 0, 0, 0)] = true := by decide +kernel
theorem kL_fillWith_19 : gAt mL_fillWith 19 [(.iconst 0, 0, 0, 0), (.ireturn, 0, 0, 0)] = true := by decide +kernel
abbrev mL_priceToBuy : gM := (10, yL_priceToBuy, cL_priceToBuy, 4, (some .int), [(0, 9, 12, 19)], none)
theorem kL_priceToBuy_0 : gAt mL_priceToBuy 0 [(.aload_n 2, 0, 0, 0), (.iconst 0, 0, 0, 0), (.aload_n 0, 0, 0, 0), (.iload_n 1, 0, 0, 0)] = true := by decide +kernel
theorem kL_priceToBuy_7 : gAt mL_priceToBuy 7 [(.i2l, 0, 0, 0), (.lastore, 0, 0, 0), (.goto 6, 15, 0, 0)] = true := by decide +kernel
theorem kL_priceToBuy_12 : gAt mL_priceToBuy 12 [(.astore_n 3, 0, 0, 0), (.iconst 1, 0, 0, 0), (.ireturn, 0, 0, 0)] = true := by decide +kernel
theorem kL_priceToBuy_15 : gAt mL_priceToBuy 15 [(.iconst 0, 0, 0, 0), (.ireturn, 0, 0, 0)] = true := by decide +kernel
abbrev mL_priceToSell : gM := (10, yL_priceToSell, cL_priceToSell, 4, (some .int), [(0, 9, 12, 19)], none)
theorem kL_priceToSell_0 : gAt mL_priceToSell 0 [(.aload_n 2, 0, 0, 0), (.iconst 0, 0, 0, 0), (.aload_n 0, 0, 0, 0), (.iload_n 1, 0, 0, 0)] = true := by decide +kernel
theorem kL_priceToSell_7 : gAt mL_priceToSell 7 [(.i2l, 0, 0, 0), (.lastore, 0, 0, 0), (.goto 6, 15, 0, 0)] = true := by decide +kernel
theorem kL_priceToSell_12 : gAt mL_priceToSell 12 [(.astore_n 3, 0, 0, 0), (.iconst 1, 0, 0, 0), (.ireturn, 0, 0, 0)] = true := by decide +kernel
theorem kL_priceToSell_15 : gAt mL_priceToSell 15 [(.iconst 0, 0, 0, 0), (.ireturn, 0, 0, 0)] = true := by decide +kernel
abbrev mL_orderRefusal : gM := (10, yL_orderRefusal, cL_orderRefusal, 7, (some .int), [(0, 14, 17, 24), (0, 14, 21, 19)], none)
theorem kL_orderRefusal_0 : gAt mL_orderRefusal 0 [(.aload 5, 0, 0, 0), (.iconst 0, 0, 0, 0), (.aload_n 0, 0, 0, 0), (.iload_n 1, 0, 0, 0), (.iload_n 2, 0, 0, 0), (.iload_n 3, 0, 0, 0), (.iload 4, 0, 0, 0)] = true := by decide +kernel
theorem kL_orderRefusal_12 : gAt mL_orderRefusal 12 [(.i2l, 0, 0, 0), (.lastore, 0, 0, 0), (.goto 11, 25, 0, 0)] = true := by decide +kernel
theorem kL_orderRefusal_17 : gAt mL_orderRefusal 17 [(.astore 6, 0, 0, 0), (.iconst 1, 0, 0, 0), (.ireturn, 0, 0, 0)] = true := by decide +kernel
theorem kL_orderRefusal_21 : gAt mL_orderRefusal 21 [(.astore 6, 0, 0, 0), (.iconst 2, 0, 0, 0), (.ireturn, 0, 0, 0)] = true := by decide +kernel
theorem kL_orderRefusal_25 : gAt mL_orderRefusal 25 [(.iconst 0, 0, 0, 0), (.ireturn, 0, 0, 0)] = true := by decide +kernel
abbrev mL_worthOf : gM := (10, yL_worthOf, cL_worthOf, 4, (some .int), [(0, 9, 12, 41)], none)
theorem kL_worthOf_0 : gAt mL_worthOf 0 [(.aload_n 2, 0, 0, 0), (.iconst 0, 0, 0, 0), (.aload_n 0, 0, 0, 0), (.iload_n 1, 0, 0, 0)] = true := by decide +kernel
theorem kL_worthOf_7 : gAt mL_worthOf 7 [(.i2l, 0, 0, 0), (.lastore, 0, 0, 0), (.goto 6, 15, 0, 0)] = true := by decide +kernel
theorem kL_worthOf_12 : gAt mL_worthOf 12 [(.astore_n 3, 0, 0, 0), (.iconst 1, 0, 0, 0), (.ireturn, 0, 0, 0)] = true := by decide +kernel
theorem kL_worthOf_15 : gAt mL_worthOf 15 [(.iconst 0, 0, 0, 0), (.ireturn, 0, 0, 0)] = true := by decide +kernel
abbrev mL_coinsAfterCry : gM := (10, yL_coinsAfterCry, cL_coinsAfterCry, 4, (some .int), [(0, 9, 12, 24)], none)
theorem kL_coinsAfterCry_0 : gAt mL_coinsAfterCry 0 [(.aload_n 2, 0, 0, 0), (.iconst 0, 0, 0, 0), (.aload_n 0, 0, 0, 0), (.iload_n 1, 0, 0, 0)] = true := by decide +kernel
theorem kL_coinsAfterCry_7 : gAt mL_coinsAfterCry 7 [(.i2l, 0, 0, 0), (.lastore, 0, 0, 0), (.goto 6, 15, 0, 0)] = true := by decide +kernel
theorem kL_coinsAfterCry_12 : gAt mL_coinsAfterCry 12 [(.astore_n 3, 0, 0, 0), (.iconst 1, 0, 0, 0), (.ireturn, 0, 0, 0)] = true := by decide +kernel
theorem kL_coinsAfterCry_15 : gAt mL_coinsAfterCry 15 [(.iconst 0, 0, 0, 0), (.ireturn, 0, 0, 0)] = true := by decide +kernel
abbrev mL_place : gM := (10, yL_place, cL_place, 8, (some .int), [(0, 16, 19, 24), (0, 16, 23, 19), (0, 16, 27, 13)], none)
theorem kL_place_0 : gAt mL_place 0 [(.aload 6, 0, 0, 0), (.iconst 0, 0, 0, 0), (.aload_n 0, 0, 0, 0), (.iload_n 1, 0, 0, 0), (.iload_n 2, 0, 0, 0), (.iload_n 3, 0, 0, 0), (.iload 4, 0, 0, 0), (.iload 5, 0, 0, 0)] = true := by decide +kernel
theorem kL_place_14 : gAt mL_place 14 [(.i2l, 0, 0, 0), (.lastore, 0, 0, 0), (.goto 15, 31, 0, 0)] = true := by decide +kernel
theorem kL_place_19 : gAt mL_place 19 [(.astore 7, 0, 0, 0), (.iconst 1, 0, 0, 0), (.ireturn, 0, 0, 0)] = true := by decide +kernel
theorem kL_place_23 : gAt mL_place 23 [(.astore 7, 0, 0, 0), (.iconst 2, 0, 0, 0), (.ireturn, 0, 0, 0)] = true := by decide +kernel
theorem kL_place_27 : gAt mL_place 27 [(.astore 7, 0, 0, 0), (.iconst 3, 0, 0, 0), (.ireturn, 0, 0, 0)] = true := by decide +kernel
theorem kL_place_31 : gAt mL_place 31 [(.iconst 0, 0, 0, 0), (.ireturn, 0, 0, 0)] = true := by decide +kernel
abbrev mL_withdraw : gM := (10, yL_withdraw, cL_withdraw, 4, (some .int), [(0, 9, 12, 41)], none)
theorem kL_withdraw_0 : gAt mL_withdraw 0 [(.aload_n 2, 0, 0, 0), (.iconst 0, 0, 0, 0), (.aload_n 0, 0, 0, 0), (.iload_n 1, 0, 0, 0)] = true := by decide +kernel
theorem kL_withdraw_7 : gAt mL_withdraw 7 [(.i2l, 0, 0, 0), (.lastore, 0, 0, 0), (.goto 6, 15, 0, 0)] = true := by decide +kernel
theorem kL_withdraw_12 : gAt mL_withdraw 12 [(.astore_n 3, 0, 0, 0), (.iconst 1, 0, 0, 0), (.ireturn, 0, 0, 0)] = true := by decide +kernel
theorem kL_withdraw_15 : gAt mL_withdraw 15 [(.iconst 0, 0, 0, 0), (.ireturn, 0, 0, 0)] = true := by decide +kernel
abbrev mL_setRule : gM := (10, yL_setRule, cL_setRule, 4, (some .int), [(0, 9, 12, 19)], none)
theorem kL_setRule_0 : gAt mL_setRule 0 [(.aload_n 2, 0, 0, 0), (.iconst 0, 0, 0, 0), (.aload_n 0, 0, 0, 0), (.iload_n 1, 0, 0, 0)] = true := by decide +kernel
theorem kL_setRule_7 : gAt mL_setRule 7 [(.i2l, 0, 0, 0), (.lastore, 0, 0, 0), (.goto 6, 15, 0, 0)] = true := by decide +kernel
theorem kL_setRule_12 : gAt mL_setRule 12 [(.astore_n 3, 0, 0, 0), (.iconst 1, 0, 0, 0), (.ireturn, 0, 0, 0)] = true := by decide +kernel
theorem kL_setRule_15 : gAt mL_setRule 15 [(.iconst 0, 0, 0, 0), (.ireturn, 0, 0, 0)] = true := by decide +kernel
abbrev mL_setBand : gM := (10, yL_setBand, cL_setBand, 4, (some .int), [(0, 9, 12, 19)], none)
theorem kL_setBand_0 : gAt mL_setBand 0 [(.aload_n 2, 0, 0, 0), (.iconst 0, 0, 0, 0), (.aload_n 0, 0, 0, 0), (.iload_n 1, 0, 0, 0)] = true := by decide +kernel
theorem kL_setBand_7 : gAt mL_setBand 7 [(.i2l, 0, 0, 0), (.lastore, 0, 0, 0), (.goto 6, 15, 0, 0)] = true := by decide +kernel
theorem kL_setBand_12 : gAt mL_setBand 12 [(.astore_n 3, 0, 0, 0), (.iconst 1, 0, 0, 0), (.ireturn, 0, 0, 0)] = true := by decide +kernel
theorem kL_setBand_15 : gAt mL_setBand 15 [(.iconst 0, 0, 0, 0), (.ireturn, 0, 0, 0)] = true := by decide +kernel
abbrev mL_pay : gM := (10, yL_pay, cL_pay, 5, (some .int), [(0, 10, 13, 24), (0, 10, 17, 19), (0, 10, 21, 13)], none)
theorem kL_pay_0 : gAt mL_pay 0 [(.aload_n 3, 0, 0, 0), (.iconst 0, 0, 0, 0), (.aload_n 0, 0, 0, 0), (.iload_n 1, 0, 0, 0), (.iload_n 2, 0, 0, 0)] = true := by decide +kernel
theorem kL_pay_8 : gAt mL_pay 8 [(.i2l, 0, 0, 0), (.lastore, 0, 0, 0), (.goto 15, 25, 0, 0)] = true := by decide +kernel
theorem kL_pay_13 : gAt mL_pay 13 [(.astore 4, 0, 0, 0), (.iconst 1, 0, 0, 0), (.ireturn, 0, 0, 0)] = true := by decide +kernel
theorem kL_pay_17 : gAt mL_pay 17 [(.astore 4, 0, 0, 0), (.iconst 2, 0, 0, 0), (.ireturn, 0, 0, 0)] = true := by decide +kernel
theorem kL_pay_21 : gAt mL_pay 21 [(.astore 4, 0, 0, 0), (.iconst 3, 0, 0, 0), (.ireturn, 0, 0, 0)] = true := by decide +kernel
theorem kL_pay_25 : gAt mL_pay 25 [(.iconst 0, 0, 0, 0), (.ireturn, 0, 0, 0)] = true := by decide +kernel
abbrev mL_pass : gM := (10, yL_pass, cL_pass, 4, (some .int), [(0, 9, 12, 19)], none)
theorem kL_pass_0 : gAt mL_pass 0 [(.aload_n 2, 0, 0, 0), (.iconst 0, 0, 0, 0), (.aload_n 0, 0, 0, 0), (.iload_n 1, 0, 0, 0)] = true := by decide +kernel
theorem kL_pass_7 : gAt mL_pass 7 [(.i2l, 0, 0, 0), (.lastore, 0, 0, 0), (.goto 6, 15, 0, 0)] = true := by decide +kernel
theorem kL_pass_12 : gAt mL_pass 12 [(.astore_n 3, 0, 0, 0), (.iconst 1, 0, 0, 0), (.ireturn, 0, 0, 0)] = true := by decide +kernel
theorem kL_pass_15 : gAt mL_pass 15 [(.iconst 0, 0, 0, 0), (.ireturn, 0, 0, 0)] = true := by decide +kernel
abbrev mL_save : gM := (10, yL_save, cL_save, 4, (some .int), [(0, 9, 12, 24)], none)
theorem kL_save_0 : gAt mL_save 0 [(.aload_n 2, 0, 0, 0), (.iconst 0, 0, 0, 0), (.aload_n 0, 0, 0, 0), (.iload_n 1, 0, 0, 0)] = true := by decide +kernel
theorem kL_save_7 : gAt mL_save 7 [(.i2l, 0, 0, 0), (.lastore, 0, 0, 0), (.goto 6, 15, 0, 0)] = true := by decide +kernel
theorem kL_save_12 : gAt mL_save 12 [(.astore_n 3, 0, 0, 0), (.iconst 1, 0, 0, 0), (.ireturn, 0, 0, 0)] = true := by decide +kernel
theorem kL_save_15 : gAt mL_save 15 [(.iconst 0, 0, 0, 0), (.ireturn, 0, 0, 0)] = true := by decide +kernel
abbrev mL_restore : gM := (10, yL_restore, cL_restore, 4, (some .int), [(0, 9, 12, 24), (0, 9, 15, 13)], none)
theorem kL_restore_0 : gAt mL_restore 0 [(.aload_n 2, 0, 0, 0), (.iconst 0, 0, 0, 0), (.aload_n 0, 0, 0, 0), (.iload_n 1, 0, 0, 0)] = true := by decide +kernel
theorem kL_restore_7 : gAt mL_restore 7 [(.i2l, 0, 0, 0), (.lastore, 0, 0, 0), (.goto 9, 18, 0, 0)] = true := by decide +kernel
theorem kL_restore_12 : gAt mL_restore 12 [(.astore_n 3, 0, 0, 0), (.iconst 1, 0, 0, 0), (.ireturn, 0, 0, 0)] = true := by decide +kernel
theorem kL_restore_15 : gAt mL_restore 15 [(.astore_n 3, 0, 0, 0), (.iconst 2, 0, 0, 0), (.ireturn, 0, 0, 0)] = true := by decide +kernel
theorem kL_restore_18 : gAt mL_restore 18 [(.iconst 0, 0, 0, 0), (.ireturn, 0, 0, 0)] = true := by decide +kernel
abbrev mL_undo : gM := (10, yL_undo, cL_undo, 3, (some .int), [(0, 8, 11, 13)], none)
theorem kL_undo_0 : gAt mL_undo 0 [(.aload_n 1, 0, 0, 0), (.iconst 0, 0, 0, 0), (.aload_n 0, 0, 0, 0)] = true := by decide +kernel
theorem kL_undo_6 : gAt mL_undo 6 [(.i2l, 0, 0, 0), (.lastore, 0, 0, 0), (.goto 6, 14, 0, 0)] = true := by decide +kernel
theorem kL_undo_11 : gAt mL_undo 11 [(.astore_n 2, 0, 0, 0), (.iconst 1, 0, 0, 0), (.ireturn, 0, 0, 0)] = true := by decide +kernel
theorem kL_undo_14 : gAt mL_undo 14 [(.iconst 0, 0, 0, 0), (.ireturn, 0, 0, 0)] = true := by decide +kernel
abbrev mL_printSide : gM := (10, yL_printSide, cL_printSide, 4, (some .int), [(0, 9, 12, 19)], none)
theorem kL_printSide_0 : gAt mL_printSide 0 [(.aload_n 2, 0, 0, 0), (.iconst 0, 0, 0, 0), (.aload_n 0, 0, 0, 0), (.iload_n 1, 0, 0, 0)] = true := by decide +kernel
theorem kL_printSide_7 : gAt mL_printSide 7 [(.i2l, 0, 0, 0), (.lastore, 0, 0, 0), (.goto 6, 15, 0, 0)] = true := by decide +kernel
theorem kL_printSide_12 : gAt mL_printSide 12 [(.astore_n 3, 0, 0, 0), (.iconst 1, 0, 0, 0), (.ireturn, 0, 0, 0)] = true := by decide +kernel
theorem kL_printSide_15 : gAt mL_printSide 15 [(.iconst 0, 0, 0, 0), (.ireturn, 0, 0, 0)] = true := by decide +kernel
abbrev mL_outputByte : gM := (10, yL_outputByte, cL_outputByte, 4, (some .int), [(0, 9, 12, 41)], none)
theorem kL_outputByte_0 : gAt mL_outputByte 0 [(.aload_n 2, 0, 0, 0), (.iconst 0, 0, 0, 0), (.aload_n 0, 0, 0, 0), (.iload_n 1, 0, 0, 0)] = true := by decide +kernel
theorem kL_outputByte_7 : gAt mL_outputByte 7 [(.i2l, 0, 0, 0), (.lastore, 0, 0, 0), (.goto 6, 15, 0, 0)] = true := by decide +kernel
theorem kL_outputByte_12 : gAt mL_outputByte 12 [(.astore_n 3, 0, 0, 0), (.iconst 1, 0, 0, 0), (.ireturn, 0, 0, 0)] = true := by decide +kernel
theorem kL_outputByte_15 : gAt mL_outputByte 15 [(.iconst 0, 0, 0, 0), (.ireturn, 0, 0, 0)] = true := by decide +kernel
