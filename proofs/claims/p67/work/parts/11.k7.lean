abbrev m7_init : gM := (7, yX7_init, cX7_init, 1, none, [], none)
theorem k7_init_0 : gAt m7_init 0 [(.aload_n 0, 0, 0, 0)] = true := by decide +kernel
theorem k7_init_4 : gAt m7_init 4 [(.aload_n 0, 0, 0, 0), (.bipush 8, 0, 0, 0)] = true := by decide +kernel
theorem k7_init_9 : gAt m7_init 9 [(.putfield 9, 7, 1, 2), (.aload_n 0, 0, 0, 0), (.bipush 8, 0, 0, 0)] = true := by decide +kernel
theorem k7_init_17 : gAt m7_init 17 [(.putfield 15, 7, 2, 2), (.aload_n 0, 0, 0, 0), (.bipush 8, 0, 0, 0)] = true := by decide +kernel
theorem k7_init_25 : gAt m7_init 25 [(.putfield 18, 7, 3, 2), (.return_, 0, 0, 0)] = true := by decide +kernel
abbrev m7_copyFrom : gM := (7, yX7_copyFrom, cX7_copyFrom, 3, none, [], none)
theorem k7_copyFrom_0 : gAt m7_copyFrom 0 [(.aload_n 0, 0, 0, 0), (.aload_n 1, 0, 0, 0), (.getfield 21, 7, 0, 0), (.putfield 21, 7, 0, 0), (.iconst 0, 0, 0, 0), (.istore_n 2, 0, 0, 0)] = true := by decide +kernel
theorem k7_copyFrom_10 : gAt m7_copyFrom 10 [(.iload_n 2, 0, 0, 0), (.bipush 8, 0, 0, 0), (.if_icmp .ge 45, 58, 0, 0), (.aload_n 0, 0, 0, 0), (.getfield 9, 7, 1, 0), (.iload_n 2, 0, 0, 0), (.aload_n 1, 0, 0, 0), (.getfield 9, 7, 1, 0), (.iload_n 2, 0, 0, 0), (.iaload, 0, 0, 0), (.iastore, 0, 0, 0), (.aload_n 0, 0, 0, 0), (.getfield 15, 7, 2, 0), (.iload_n 2, 0, 0, 0), (.aload_n 1, 0, 0, 0), (.getfield 15, 7, 2, 0), (.iload_n 2, 0, 0, 0), (.iaload, 0, 0, 0), (.iastore, 0, 0, 0), (.aload_n 0, 0, 0, 0), (.getfield 18, 7, 3, 0), (.iload_n 2, 0, 0, 0), (.aload_n 1, 0, 0, 0), (.getfield 18, 7, 3, 0), (.iload_n 2, 0, 0, 0), (.iaload, 0, 0, 0), (.iastore, 0, 0, 0), (.iinc 2 1, 0, 0, 0), (.goto (-45), 10, 0, 0)] = true := by decide +kernel
theorem k7_copyFrom_58 : gAt m7_copyFrom 58 [(.return_, 0, 0, 0)] = true := by decide +kernel
abbrev m7_add : gM := (7, yX7_add, cX7_add, 4, none, [], none)
theorem k7_add_0 : gAt m7_add 0 [(.aload_n 0, 0, 0, 0), (.getfield 21, 7, 0, 0), (.bipush 8, 0, 0, 0), (.if_icmp .lt 4, 10, 0, 0), (.return_, 0, 0, 0)] = true := by decide +kernel
theorem k7_add_10 : gAt m7_add 10 [(.aload_n 0, 0, 0, 0), (.getfield 9, 7, 1, 0), (.aload_n 0, 0, 0, 0), (.getfield 21, 7, 0, 0), (.iload_n 1, 0, 0, 0), (.iastore, 0, 0, 0), (.aload_n 0, 0, 0, 0), (.getfield 15, 7, 2, 0), (.aload_n 0, 0, 0, 0), (.getfield 21, 7, 0, 0), (.iload_n 2, 0, 0, 0), (.iastore, 0, 0, 0), (.aload_n 0, 0, 0, 0), (.getfield 18, 7, 3, 0), (.aload_n 0, 0, 0, 0), (.getfield 21, 7, 0, 0), (.iload_n 3, 0, 0, 0), (.iastore, 0, 0, 0), (.aload_n 0, 0, 0, 0), (.dup, 0, 0, 0), (.getfield 21, 7, 0, 0), (.iconst 1, 0, 0, 0), (.iadd, 0, 0, 0), (.putfield 21, 7, 0, 0), (.return_, 0, 0, 0)] = true := by decide +kernel
abbrev m7_named : gM := (7, yX7_named, cX7_named, 3, (some .int), [], none)
theorem k7_named_0 : gAt m7_named 0 [(.iconst 0, 0, 0, 0), (.istore_n 2, 0, 0, 0)] = true := by decide +kernel
theorem k7_named_2 : gAt m7_named 2 [(.iload_n 2, 0, 0, 0), (.aload_n 0, 0, 0, 0), (.getfield 21, 7, 0, 0), (.if_icmp .ge 21, 28, 0, 0), (.aload_n 0, 0, 0, 0), (.getfield 9, 7, 1, 0), (.iload_n 2, 0, 0, 0), (.iaload, 0, 0, 0), (.iload_n 1, 0, 0, 0), (.if_icmp .ne 5, 22, 0, 0), (.iload_n 2, 0, 0, 0), (.ireturn, 0, 0, 0)] = true := by decide +kernel
theorem k7_named_22 : gAt m7_named 22 [(.iinc 2 1, 0, 0, 0), (.goto (-23), 2, 0, 0)] = true := by decide +kernel
theorem k7_named_28 : gAt m7_named 28 [(.iconst (-1), 0, 0, 0), (.ireturn, 0, 0, 0)] = true := by decide +kernel
abbrev m7_allCoins : gM := (7, yX7_allCoins, cX7_allCoins, 3, (some .int), [], none)
theorem k7_allCoins_0 : gAt m7_allCoins 0 [(.iconst 0, 0, 0, 0), (.istore_n 1, 0, 0, 0), (.iconst 0, 0, 0, 0), (.istore_n 2, 0, 0, 0)] = true := by decide +kernel
theorem k7_allCoins_4 : gAt m7_allCoins 4 [(.iload_n 2, 0, 0, 0), (.aload_n 0, 0, 0, 0), (.getfield 21, 7, 0, 0), (.if_icmp .ge 18, 27, 0, 0), (.iload_n 1, 0, 0, 0), (.aload_n 0, 0, 0, 0), (.getfield 15, 7, 2, 0), (.iload_n 2, 0, 0, 0), (.iaload, 0, 0, 0), (.iadd, 0, 0, 0), (.istore_n 1, 0, 0, 0), (.iinc 2 1, 0, 0, 0), (.goto (-20), 4, 0, 0)] = true := by decide +kernel
theorem k7_allCoins_27 : gAt m7_allCoins 27 [(.iload_n 1, 0, 0, 0), (.ireturn, 0, 0, 0)] = true := by decide +kernel
abbrev m7_allGoods : gM := (7, yX7_allGoods, cX7_allGoods, 3, (some .int), [], none)
theorem k7_allGoods_0 : gAt m7_allGoods 0 [(.iconst 0, 0, 0, 0), (.istore_n 1, 0, 0, 0), (.iconst 0, 0, 0, 0), (.istore_n 2, 0, 0, 0)] = true := by decide +kernel
theorem k7_allGoods_4 : gAt m7_allGoods 4 [(.iload_n 2, 0, 0, 0), (.aload_n 0, 0, 0, 0), (.getfield 21, 7, 0, 0), (.if_icmp .ge 18, 27, 0, 0), (.iload_n 1, 0, 0, 0), (.aload_n 0, 0, 0, 0), (.getfield 18, 7, 3, 0), (.iload_n 2, 0, 0, 0), (.iaload, 0, 0, 0), (.iadd, 0, 0, 0), (.istore_n 1, 0, 0, 0), (.iinc 2 1, 0, 0, 0), (.goto (-20), 4, 0, 0)] = true := by decide +kernel
theorem k7_allGoods_27 : gAt m7_allGoods 27 [(.iload_n 1, 0, 0, 0), (.ireturn, 0, 0, 0)] = true := by decide +kernel
