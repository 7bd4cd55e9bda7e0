abbrev m4_init : gM := (4, yX4_init, cX4_init, 1, none, [], none)
theorem k4_init_0 : gAt m4_init 0 [(.aload_n 0, 0, 0, 0)] = true := by decide +kernel
theorem k4_init_4 : gAt m4_init 4 [(.aload_n 0, 0, 0, 0), (.sipush 239, 0, 0, 0)] = true := by decide +kernel
theorem k4_init_10 : gAt m4_init 10 [(.putfield 9, 4, 1, 2), (.return_, 0, 0, 0)] = true := by decide +kernel
abbrev m4_put : gM := (4, yX4_put, cX4_put, 2, none, [], none)
theorem k4_put_0 : gAt m4_put 0 [(.aload_n 0, 0, 0, 0), (.getfield 13, 4, 0, 0), (.sipush 239, 0, 0, 0), (.if_icmp .ge 24, 31, 0, 0), (.aload_n 0, 0, 0, 0), (.getfield 9, 4, 1, 0), (.aload_n 0, 0, 0, 0), (.getfield 13, 4, 0, 0), (.iload_n 1, 0, 0, 0), (.i2b, 0, 0, 0), (.bastore, 0, 0, 0), (.aload_n 0, 0, 0, 0), (.dup, 0, 0, 0), (.getfield 13, 4, 0, 0), (.iconst 1, 0, 0, 0), (.iadd, 0, 0, 0), (.putfield 13, 4, 0, 0)] = true := by decide +kernel
theorem k4_put_31 : gAt m4_put 31 [(.return_, 0, 0, 0)] = true := by decide +kernel
abbrev m4_putName : gM := (4, yX4_putName, cX4_putName, 4, none, [], none)
theorem k4_putName_0 : gAt m4_putName 0 [(.bipush 24, 0, 0, 0), (.istore_n 2, 0, 0, 0)] = true := by decide +kernel
theorem k4_putName_3 : gAt m4_putName 3 [(.iload_n 2, 0, 0, 0), (.ifCond .lt 26, 30, 0, 0), (.iload_n 1, 0, 0, 0), (.iload_n 2, 0, 0, 0), (.ishr, 0, 0, 0), (.sipush 255, 0, 0, 0), (.iand, 0, 0, 0), (.istore_n 3, 0, 0, 0), (.iload_n 3, 0, 0, 0), (.ifCond .eq 8, 24, 0, 0), (.aload_n 0, 0, 0, 0), (.iload_n 3, 0, 0, 0)] = true := by decide +kernel
theorem k4_putName_24 : gAt m4_putName 24 [(.iinc 2 (-8), 0, 0, 0), (.goto (-24), 3, 0, 0)] = true := by decide +kernel
theorem k4_putName_30 : gAt m4_putName 30 [(.return_, 0, 0, 0)] = true := by decide +kernel
abbrev m4_putNumber : gM := (4, yX4_putNumber, cX4_putNumber, 2, none, [], none)
theorem k4_putNumber_0 : gAt m4_putNumber 0 [(.iload_n 1, 0, 0, 0), (.bipush 100, 0, 0, 0), (.if_icmp .lt 17, 20, 0, 0), (.aload_n 0, 0, 0, 0), (.bipush 48, 0, 0, 0), (.iload_n 1, 0, 0, 0), (.bipush 100, 0, 0, 0), (.idiv, 0, 0, 0), (.bipush 10, 0, 0, 0), (.irem, 0, 0, 0), (.iadd, 0, 0, 0)] = true := by decide +kernel
theorem k4_putNumber_20 : gAt m4_putNumber 20 [(.iload_n 1, 0, 0, 0), (.bipush 10, 0, 0, 0), (.if_icmp .lt 17, 40, 0, 0), (.aload_n 0, 0, 0, 0), (.bipush 48, 0, 0, 0), (.iload_n 1, 0, 0, 0), (.bipush 10, 0, 0, 0), (.idiv, 0, 0, 0), (.bipush 10, 0, 0, 0), (.irem, 0, 0, 0), (.iadd, 0, 0, 0)] = true := by decide +kernel
theorem k4_putNumber_40 : gAt m4_putNumber 40 [(.aload_n 0, 0, 0, 0), (.bipush 48, 0, 0, 0), (.iload_n 1, 0, 0, 0), (.bipush 10, 0, 0, 0), (.irem, 0, 0, 0), (.iadd, 0, 0, 0)] = true := by decide +kernel
theorem k4_putNumber_51 : gAt m4_putNumber 51 [(.return_, 0, 0, 0)] = true := by decide +kernel
