abbrev m4_init : gM := (4, yX4_init, cX4_init, 1, none, [], none)
theorem k4_init_0 : gAt m4_init 0 [(.aload_n 0, 0, 0, 0)] = true := by decide +kernel
theorem k4_init_4 : gAt m4_init 4 [(.aload_n 0, 0, 0, 0), (.sipush 239, 0, 0, 0)] = true := by decide +kernel
theorem k4_init_10 : gAt m4_init 10 [(.putfield 9, 4, 1, 2), (.return_, 0, 0, 0)] = true := by decide +kernel
