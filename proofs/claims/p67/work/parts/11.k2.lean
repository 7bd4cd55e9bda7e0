abbrev m2_init : gM := (2, yX2_init, cX2_init, 1, none, [], none)
theorem k2_init_0 : gAt m2_init 0 [(.aload_n 0, 0, 0, 0)] = true := by decide +kernel
theorem k2_init_4 : gAt m2_init 4 [(.aload_n 0, 0, 0, 0), (.bipush 6, 0, 0, 0)] = true := by decide +kernel
theorem k2_init_10 : gAt m2_init 10 [(.putfield 11, 2, 2, 2), (.return_, 0, 0, 0)] = true := by decide +kernel
abbrev m2_keep : gM := (2, yX2_keep, cX2_keep, 2, none, [], none)
theorem k2_keep_0 : gAt m2_keep 0 [(.aload_n 0, 0, 0, 0), (.getfield 11, 2, 2, 0), (.aload_n 0, 0, 0, 0), (.getfield 15, 2, 1, 0), (.aaload, 0, 0, 0)] = true := by decide +kernel
theorem k2_keep_12 : gAt m2_keep 12 [(.aload_n 0, 0, 0, 0), (.getfield 11, 2, 2, 0), (.aload_n 0, 0, 0, 0), (.getfield 15, 2, 1, 0)] = true := by decide +kernel
theorem k2_keep_23 : gAt m2_keep 23 [(.dup, 0, 0, 0)] = true := by decide +kernel
theorem k2_keep_27 : gAt m2_keep 27 [(.aastore, 0, 0, 0)] = true := by decide +kernel
theorem k2_keep_28 : gAt m2_keep 28 [(.aload_n 0, 0, 0, 0), (.getfield 11, 2, 2, 0), (.aload_n 0, 0, 0, 0), (.getfield 15, 2, 1, 0), (.aaload, 0, 0, 0), (.aload_n 1, 0, 0, 0)] = true := by decide +kernel
theorem k2_keep_41 : gAt m2_keep 41 [(.aload_n 0, 0, 0, 0), (.aload_n 0, 0, 0, 0), (.getfield 15, 2, 1, 0), (.iconst 1, 0, 0, 0), (.iadd, 0, 0, 0), (.bipush 6, 0, 0, 0), (.if_icmp .ge 12, 62, 0, 0), (.aload_n 0, 0, 0, 0), (.getfield 15, 2, 1, 0), (.iconst 1, 0, 0, 0), (.iadd, 0, 0, 0), (.goto 4, 63, 0, 0)] = true := by decide +kernel
theorem k2_keep_62 : gAt m2_keep 62 [(.iconst 0, 0, 0, 0)] = true := by decide +kernel
theorem k2_keep_63 : gAt m2_keep 63 [(.putfield 15, 2, 1, 0), (.aload_n 0, 0, 0, 0), (.getfield 24, 2, 0, 0), (.bipush 6, 0, 0, 0), (.if_icmp .ge 13, 85, 0, 0), (.aload_n 0, 0, 0, 0), (.dup, 0, 0, 0), (.getfield 24, 2, 0, 0), (.iconst 1, 0, 0, 0), (.iadd, 0, 0, 0), (.putfield 24, 2, 0, 0)] = true := by decide +kernel
theorem k2_keep_85 : gAt m2_keep 85 [(.return_, 0, 0, 0)] = true := by decide +kernel
abbrev m2_bringBack : gM := (2, yX2_bringBack, cX2_bringBack, 3, none, [], none)
theorem k2_bringBack_0 : gAt m2_bringBack 0 [(.aload_n 0, 0, 0, 0), (.getfield 15, 2, 1, 0), (.ifCond .le 12, 16, 0, 0), (.aload_n 0, 0, 0, 0), (.getfield 15, 2, 1, 0), (.iconst 1, 0, 0, 0), (.isub, 0, 0, 0), (.goto 4, 17, 0, 0)] = true := by decide +kernel
theorem k2_bringBack_16 : gAt m2_bringBack 16 [(.iconst 5, 0, 0, 0)] = true := by decide +kernel
theorem k2_bringBack_17 : gAt m2_bringBack 17 [(.istore_n 2, 0, 0, 0), (.aload_n 0, 0, 0, 0), (.getfield 24, 2, 0, 0), (.iconst 1, 0, 0, 0), (.if_icmp .lt 12, 35, 0, 0), (.aload_n 0, 0, 0, 0), (.getfield 11, 2, 2, 0), (.iload_n 2, 0, 0, 0), (.aaload, 0, 0, 0)] = true := by decide +kernel
theorem k2_bringBack_35 : gAt m2_bringBack 35 [(.return_, 0, 0, 0)] = true := by decide +kernel
theorem k2_bringBack_36 : gAt m2_bringBack 36 [(.aload_n 1, 0, 0, 0), (.aload_n 0, 0, 0, 0), (.getfield 11, 2, 2, 0), (.iload_n 2, 0, 0, 0), (.aaload, 0, 0, 0)] = true := by decide +kernel
theorem k2_bringBack_46 : gAt m2_bringBack 46 [(.aload_n 0, 0, 0, 0), (.iload_n 2, 0, 0, 0), (.putfield 15, 2, 1, 0), (.aload_n 0, 0, 0, 0), (.dup, 0, 0, 0), (.getfield 24, 2, 0, 0), (.iconst 1, 0, 0, 0), (.isub, 0, 0, 0), (.putfield 24, 2, 0, 0), (.return_, 0, 0, 0)] = true := by decide +kernel
