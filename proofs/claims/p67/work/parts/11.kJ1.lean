abbrev mJ1_charAt_3b067 : gM := (12, yJ1_charAt_3b067, cJ1_charAt_3b067, 2, (some .char), [], none)
theorem kJ1_charAt_3b067_0 : gAt mJ1_charAt_3b067 0 [(.iload_n 1, 0, 0, 0), (.aload_n 0, 0, 0, 0)] = true := by decide +kernel
theorem kJ1_charAt_3b067_6 : gAt mJ1_charAt_3b067 6 [(.aload_n 0, 0, 0, 0), (.iload_n 1, 0, 0, 0), (.baload, 0, 0, 0), (.sipush 255, 0, 0, 0), (.iand, 0, 0, 0), (.i2c, 0, 0, 0)] = true := by decide +kernel
abbrev mJ1_inflate_0e8fd : gM := (12, yJ1_inflate_0e8fd, cJ1_inflate_0e8fd, 5, none, [], none)
theorem kJ1_inflate_0e8fd_0 : gAt mJ1_inflate_0e8fd 0 [(.aload_n 0, 0, 0, 0), (.iload_n 1, 0, 0, 0), (.aload_n 2, 0, 0, 0), (.iload_n 3, 0, 0, 0), (.iload 4, 0, 0, 0)] = true := by decide +kernel
theorem kJ1_inflate_0e8fd_9 : gAt mJ1_inflate_0e8fd 9 [(.return_, 0, 0, 0)] = true := by decide +kernel
