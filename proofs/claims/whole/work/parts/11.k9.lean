abbrev m9_thrown : gM := (9, yX9_thrown, cX9_thrown, 1, (some .int), [], none)
theorem k9_thrown_0 : gAt m9_thrown 0 [(.aload_n 0, 0, 0, 0), (.getfield 3, 9, 0, 0), (.ireturn, 0, 0, 0)] = true := by decide +kernel
abbrev m9_in : gM := (9, yX9_in, cX9_in, 6, (some .boolean), [], none)
theorem k9_in_0 : gAt m9_in 0 [(.lload_n 0, 0, 0, 0), (.lload_n 2, 0, 0, 0), (.lcmp, 0, 0, 0), (.ifCond .lt 14, 17, 0, 0), (.lload_n 0, 0, 0, 0), (.lload 4, 0, 0, 0), (.lcmp, 0, 0, 0), (.ifCond .gt 7, 17, 0, 0), (.iconst 1, 0, 0, 0), (.goto 4, 18, 0, 0)] = true := by decide +kernel
theorem k9_in_17 : gAt m9_in 17 [(.iconst 0, 0, 0, 0)] = true := by decide +kernel
theorem k9_in_18 : gAt m9_in 18 [(.ireturn, 0, 0, 0)] = true := by decide +kernel
abbrev m9_passes3 : gM := (9, yX9_passes3, cX9_passes3, 4, (some .boolean), [], none)
theorem k9_passes3_0 : gAt m9_passes3 0 [(.aload_n 0, 0, 0, 0), (.iload_n 1, 0, 0, 0), (.ifCond .ne 7, 9, 0, 0), (.iconst 1, 0, 0, 0), (.goto 20, 26, 0, 0)] = true := by decide +kernel
theorem k9_passes3_9 : gAt m9_passes3 9 [(.iload_n 2, 0, 0, 0), (.ifCond .ne 7, 17, 0, 0), (.iconst 2, 0, 0, 0), (.goto 12, 26, 0, 0)] = true := by decide +kernel
theorem k9_passes3_17 : gAt m9_passes3 17 [(.iload_n 3, 0, 0, 0), (.ifCond .ne 7, 25, 0, 0), (.iconst 3, 0, 0, 0), (.goto 4, 26, 0, 0)] = true := by decide +kernel
theorem k9_passes3_25 : gAt m9_passes3 25 [(.iconst 0, 0, 0, 0)] = true := by decide +kernel
theorem k9_passes3_26 : gAt m9_passes3 26 [(.putfield 3, 9, 0, 0), (.aload_n 0, 0, 0, 0), (.getfield 3, 9, 0, 0), (.ifCond .ne 7, 40, 0, 0), (.iconst 1, 0, 0, 0), (.goto 4, 41, 0, 0)] = true := by decide +kernel
theorem k9_passes3_40 : gAt m9_passes3 40 [(.iconst 0, 0, 0, 0)] = true := by decide +kernel
theorem k9_passes3_41 : gAt m9_passes3 41 [(.ireturn, 0, 0, 0)] = true := by decide +kernel
abbrev m9_passes2 : gM := (9, yX9_passes2, cX9_passes2, 3, (some .boolean), [], none)
theorem k9_passes2_0 : gAt m9_passes2 0 [(.aload_n 0, 0, 0, 0), (.iload_n 1, 0, 0, 0), (.iload_n 2, 0, 0, 0), (.iconst 1, 0, 0, 0)] = true := by decide +kernel
theorem k9_passes2_7 : gAt m9_passes2 7 [(.ireturn, 0, 0, 0)] = true := by decide +kernel
abbrev m9_passes1 : gM := (9, yX9_passes1, cX9_passes1, 2, (some .boolean), [], none)
theorem k9_passes1_0 : gAt m9_passes1 0 [(.aload_n 0, 0, 0, 0), (.iload_n 1, 0, 0, 0), (.iconst 1, 0, 0, 0), (.iconst 1, 0, 0, 0)] = true := by decide +kernel
theorem k9_passes1_7 : gAt m9_passes1 7 [(.ireturn, 0, 0, 0)] = true := by decide +kernel
abbrev m9_init : gM := (9, yX9_init, cX9_init, 2, none, [], none)
theorem k9_init_0 : gAt m9_init 0 [(.aload_n 0, 0, 0, 0)] = true := by decide +kernel
theorem k9_init_4 : gAt m9_init 4 [(.aload_n 0, 0, 0, 0), (.sipush 174, 0, 0, 0)] = true := by decide +kernel
theorem k9_init_10 : gAt m9_init 10 [(.putfield 17, 9, 1, 2), (.aload_n 0, 0, 0, 0), (.sipush 174, 0, 0, 0)] = true := by decide +kernel
theorem k9_init_19 : gAt m9_init 19 [(.putfield 21, 9, 2, 2), (.aload_n 0, 0, 0, 0), (.aload_n 0, 0, 0, 0), (.getfield 17, 9, 1, 0), (.putfield 24, 9, 3, 2), (.aload_n 0, 0, 0, 0), (.sipush 1001, 0, 0, 0)] = true := by decide +kernel
theorem k9_init_36 : gAt m9_init 36 [(.putfield 27, 9, 4, 2), (.aload_n 0, 0, 0, 0), (.sipush 1001, 0, 0, 0)] = true := by decide +kernel
theorem k9_init_45 : gAt m9_init 45 [(.putfield 30, 9, 5, 2), (.aload_n 0, 0, 0, 0), (.bipush 21, 0, 0, 0)] = true := by decide +kernel
theorem k9_init_53 : gAt m9_init 53 [(.putfield 33, 9, 6, 2), (.aload_n 0, 0, 0, 0), (.sipush 600, 0, 0, 0)] = true := by decide +kernel
theorem k9_init_62 : gAt m9_init 62 [(.putfield 36, 9, 7, 2), (.aload_n 0, 0, 0, 0), (.ldc 40, 1, 30, 0)] = true := by decide +kernel
theorem k9_init_71 : gAt m9_init 71 [(.putfield 46, 9, 17, 1), (.aload_n 0, 0, 0, 0), (.ldc 50, 1, 31, 0)] = true := by decide +kernel
theorem k9_init_80 : gAt m9_init 80 [(.putfield 52, 9, 18, 1), (.aload_n 0, 0, 0, 0), (.ldc 55, 1, 32, 0)] = true := by decide +kernel
theorem k9_init_89 : gAt m9_init 89 [(.putfield 57, 9, 19, 1), (.aload_n 0, 0, 0, 0), (.ldc 60, 1, 33, 0)] = true := by decide +kernel
theorem k9_init_98 : gAt m9_init 98 [(.putfield 62, 9, 20, 1), (.aload_n 0, 0, 0, 0), (.ldc 65, 1, 34, 0)] = true := by decide +kernel
theorem k9_init_107 : gAt m9_init 107 [(.putfield 67, 9, 21, 1), (.aload_n 0, 0, 0, 0), (.ldc 70, 1, 35, 0)] = true := by decide +kernel
theorem k9_init_116 : gAt m9_init 116 [(.putfield 72, 9, 22, 1), (.aload_n 0, 0, 0, 0), (.ldc 75, 1, 36, 0)] = true := by decide +kernel
theorem k9_init_125 : gAt m9_init 125 [(.putfield 77, 9, 23, 1), (.aload_n 0, 0, 0, 0), (.ldc 80, 1, 37, 0)] = true := by decide +kernel
theorem k9_init_134 : gAt m9_init 134 [(.putfield 82, 9, 24, 1), (.aload_n 0, 0, 0, 0), (.ldc 85, 1, 38, 0)] = true := by decide +kernel
theorem k9_init_143 : gAt m9_init 143 [(.putfield 87, 9, 25, 1), (.aload_n 0, 0, 0, 0), (.ldc 90, 1, 39, 0)] = true := by decide +kernel
theorem k9_init_152 : gAt m9_init 152 [(.putfield 92, 9, 26, 1), (.aload_n 0, 0, 0, 0), (.ldc 95, 1, 40, 0)] = true := by decide +kernel
theorem k9_init_161 : gAt m9_init 161 [(.putfield 97, 9, 27, 1), (.aload_n 0, 0, 0, 0), (.ldc 100, 1, 41, 0)] = true := by decide +kernel
theorem k9_init_170 : gAt m9_init 170 [(.putfield 102, 9, 28, 1), (.aload_n 0, 0, 0, 0), (.ldc 105, 1, 42, 0)] = true := by decide +kernel
theorem k9_init_179 : gAt m9_init 179 [(.putfield 107, 9, 29, 1), (.aload_n 0, 0, 0, 0), (.ldc 110, 1, 43, 0)] = true := by decide +kernel
theorem k9_init_188 : gAt m9_init 188 [(.putfield 112, 9, 30, 1), (.aload_n 0, 0, 0, 0), (.ldc 115, 1, 44, 0)] = true := by decide +kernel
theorem k9_init_197 : gAt m9_init 197 [(.putfield 117, 9, 31, 1), (.aload_n 0, 0, 0, 0), (.ldc 120, 1, 45, 0)] = true := by decide +kernel
theorem k9_init_206 : gAt m9_init 206 [(.putfield 122, 9, 32, 1), (.aload_n 0, 0, 0, 0), (.sipush 1044, 0, 0, 0)] = true := by decide +kernel
theorem k9_init_215 : gAt m9_init 215 [(.putfield 125, 9, 33, 2), (.aload_n 0, 0, 0, 0), (.sipush 348, 0, 0, 0)] = true := by decide +kernel
theorem k9_init_224 : gAt m9_init 224 [(.putfield 128, 9, 35, 2), (.aload_n 0, 0, 0, 0), (.iconst (-1), 0, 0, 0), (.putfield 131, 9, 38, 0), (.aload_n 0, 0, 0, 0), (.sipush 400, 0, 0, 0)] = true := by decide +kernel
theorem k9_init_238 : gAt m9_init 238 [(.putfield 134, 9, 39, 2), (.aload_n 0, 0, 0, 0), (.iconst 5, 0, 0, 0), (.bipush 50, 0, 0, 0), (.bipush 20, 0, 0, 0), (.iconst 0, 0, 0, 0)] = true := by decide +kernel
theorem k9_init_251 : gAt m9_init 251 [(.aload_n 0, 0, 0, 0), (.ldc 141, 1, 46, 0)] = true := by decide +kernel
theorem k9_init_257 : gAt m9_init 257 [(.l2i, 0, 0, 0), (.iconst 3, 0, 0, 0), (.sipush 2000, 0, 0, 0), (.bipush 10, 0, 0, 0)] = true := by decide +kernel
theorem k9_init_267 : gAt m9_init 267 [(.aload_n 0, 0, 0, 0), (.ldc 146, 1, 47, 0)] = true := by decide +kernel
theorem k9_init_273 : gAt m9_init 273 [(.l2i, 0, 0, 0), (.iconst 3, 0, 0, 0), (.sipush 3000, 0, 0, 0), (.iconst 0, 0, 0, 0)] = true := by decide +kernel
theorem k9_init_282 : gAt m9_init 282 [(.aload_n 0, 0, 0, 0), (.ldc 148, 1, 48, 0)] = true := by decide +kernel
theorem k9_init_288 : gAt m9_init 288 [(.l2i, 0, 0, 0), (.iconst 3, 0, 0, 0), (.sipush 500, 0, 0, 0), (.bipush 40, 0, 0, 0)] = true := by decide +kernel
theorem k9_init_298 : gAt m9_init 298 [(.aload_n 0, 0, 0, 0), (.ldc 150, 1, 49, 0)] = true := by decide +kernel
theorem k9_init_304 : gAt m9_init 304 [(.l2i, 0, 0, 0), (.iconst 3, 0, 0, 0), (.sipush 900, 0, 0, 0), (.bipush 25, 0, 0, 0)] = true := by decide +kernel
theorem k9_init_314 : gAt m9_init 314 [(.aload_n 0, 0, 0, 0), (.iconst 0, 0, 0, 0), (.iconst 0, 0, 0, 0), (.bipush 60, 0, 0, 0), (.bipush 8, 0, 0, 0), (.bipush 9, 0, 0, 0)] = true := by decide +kernel
theorem k9_init_326 : gAt m9_init 326 [(.istore_n 1, 0, 0, 0), (.aload_n 0, 0, 0, 0), (.iconst 1, 0, 0, 0), (.iconst 0, 0, 0, 0), (.bipush 55, 0, 0, 0), (.bipush 12, 0, 0, 0), (.bipush 9, 0, 0, 0)] = true := by decide +kernel
theorem k9_init_339 : gAt m9_init 339 [(.istore_n 1, 0, 0, 0), (.aload_n 0, 0, 0, 0), (.iconst 2, 0, 0, 0), (.iconst 1, 0, 0, 0), (.bipush 48, 0, 0, 0), (.bipush 10, 0, 0, 0), (.bipush 9, 0, 0, 0)] = true := by decide +kernel
theorem k9_init_352 : gAt m9_init 352 [(.istore_n 1, 0, 0, 0), (.aload_n 0, 0, 0, 0), (.iconst 3, 0, 0, 0), (.iconst 1, 0, 0, 0), (.bipush 52, 0, 0, 0), (.bipush 15, 0, 0, 0), (.bipush 9, 0, 0, 0)] = true := by decide +kernel
theorem k9_init_365 : gAt m9_init 365 [(.istore_n 1, 0, 0, 0), (.aload_n 0, 0, 0, 0), (.iconst 2, 0, 0, 0), (.iconst 1, 0, 0, 0), (.bipush 58, 0, 0, 0), (.bipush 6, 0, 0, 0), (.bipush 9, 0, 0, 0)] = true := by decide +kernel
theorem k9_init_378 : gAt m9_init 378 [(.istore_n 1, 0, 0, 0), (.aload_n 0, 0, 0, 0), (.iconst 3, 0, 0, 0), (.iconst 0, 0, 0, 0), (.bipush 50, 0, 0, 0), (.iconst 5, 0, 0, 0), (.bipush 9, 0, 0, 0)] = true := by decide +kernel
theorem k9_init_390 : gAt m9_init 390 [(.istore_n 1, 0, 0, 0), (.aload_n 0, 0, 0, 0), (.iconst 5, 0, 0, 0)] = true := by decide +kernel
theorem k9_init_396 : gAt m9_init 396 [(.aload_n 0, 0, 0, 0), (.iconst 1, 0, 0, 0), (.iconst 0, 0, 0, 0), (.bipush 53, 0, 0, 0), (.iconst 4, 0, 0, 0), (.bipush 20, 0, 0, 0)] = true := by decide +kernel
theorem k9_init_407 : gAt m9_init 407 [(.istore_n 1, 0, 0, 0), (.aload_n 0, 0, 0, 0), (.iconst 3, 0, 0, 0), (.iconst 1, 0, 0, 0), (.bipush 53, 0, 0, 0), (.iconst 5, 0, 0, 0), (.bipush 20, 0, 0, 0)] = true := by decide +kernel
theorem k9_init_419 : gAt m9_init 419 [(.istore_n 1, 0, 0, 0), (.return_, 0, 0, 0)] = true := by decide +kernel
abbrev m9_startDraft : gM := (9, yX9_startDraft, cX9_startDraft, 2, none, [], none)
theorem k9_startDraft_0 : gAt m9_startDraft 0 [(.iconst 0, 0, 0, 0), (.istore_n 1, 0, 0, 0)] = true := by decide +kernel
theorem k9_startDraft_2 : gAt m9_startDraft 2 [(.iload_n 1, 0, 0, 0), (.sipush 174, 0, 0, 0), (.if_icmp .ge 21, 27, 0, 0), (.aload_n 0, 0, 0, 0), (.getfield 21, 9, 2, 0), (.iload_n 1, 0, 0, 0), (.aload_n 0, 0, 0, 0), (.getfield 17, 9, 1, 0), (.iload_n 1, 0, 0, 0), (.iaload, 0, 0, 0), (.iastore, 0, 0, 0), (.iinc 1 1, 0, 0, 0), (.goto (-22), 2, 0, 0)] = true := by decide +kernel
theorem k9_startDraft_27 : gAt m9_startDraft 27 [(.aload_n 0, 0, 0, 0), (.aload_n 0, 0, 0, 0), (.getfield 21, 9, 2, 0), (.putfield 24, 9, 3, 2), (.return_, 0, 0, 0)] = true := by decide +kernel
abbrev m9_endDraft : gM := (9, yX9_endDraft, cX9_endDraft, 2, (some .int), [], none)
theorem k9_endDraft_0 : gAt m9_endDraft 0 [(.aload_n 0, 0, 0, 0), (.aload_n 0, 0, 0, 0), (.getfield 17, 9, 1, 0), (.putfield 24, 9, 3, 2), (.iload_n 1, 0, 0, 0), (.ireturn, 0, 0, 0)] = true := by decide +kernel
abbrev m9_layMarket : gM := (9, yX9_layMarket, cX9_layMarket, 6, none, [], none)
theorem k9_layMarket_0 : gAt m9_layMarket 0 [(.iconst 0, 0, 0, 0), (.istore 5, 0, 0, 0)] = true := by decide +kernel
theorem k9_layMarket_3 : gAt m9_layMarket 3 [(.iload 5, 0, 0, 0), (.sipush 174, 0, 0, 0), (.if_icmp .ge 17, 25, 0, 0), (.aload_n 0, 0, 0, 0), (.getfield 24, 9, 3, 0), (.iload 5, 0, 0, 0), (.iconst 0, 0, 0, 0), (.iastore, 0, 0, 0), (.iinc 5 1, 0, 0, 0), (.goto (-19), 3, 0, 0)] = true := by decide +kernel
theorem k9_layMarket_25 : gAt m9_layMarket 25 [(.aload_n 0, 0, 0, 0), (.getfield 24, 9, 3, 0), (.iconst 0, 0, 0, 0), (.iload_n 1, 0, 0, 0), (.iastore, 0, 0, 0), (.aload_n 0, 0, 0, 0), (.getfield 24, 9, 3, 0), (.iconst 1, 0, 0, 0), (.iload_n 2, 0, 0, 0), (.iastore, 0, 0, 0), (.aload_n 0, 0, 0, 0), (.getfield 24, 9, 3, 0), (.iconst 2, 0, 0, 0), (.iload_n 3, 0, 0, 0), (.iastore, 0, 0, 0), (.aload_n 0, 0, 0, 0), (.getfield 24, 9, 3, 0), (.iconst 3, 0, 0, 0), (.iload 4, 0, 0, 0), (.iastore, 0, 0, 0), (.return_, 0, 0, 0)] = true := by decide +kernel
abbrev m9_ofTrader : gM := (9, yX9_ofTrader, cX9_ofTrader, 3, (some .int), [], none)
theorem k9_ofTrader_0 : gAt m9_ofTrader 0 [(.aload_n 0, 0, 0, 0), (.getfield 24, 9, 3, 0), (.bipush 16, 0, 0, 0), (.iconst 4, 0, 0, 0), (.iload_n 1, 0, 0, 0), (.imul, 0, 0, 0), (.iadd, 0, 0, 0), (.iload_n 2, 0, 0, 0), (.iadd, 0, 0, 0), (.iaload, 0, 0, 0), (.ireturn, 0, 0, 0)] = true := by decide +kernel
abbrev m9_addTo : gM := (9, yX9_addTo, cX9_addTo, 4, none, [], none)
theorem k9_addTo_0 : gAt m9_addTo 0 [(.aload_n 0, 0, 0, 0), (.getfield 24, 9, 3, 0), (.bipush 16, 0, 0, 0), (.iconst 4, 0, 0, 0), (.iload_n 1, 0, 0, 0), (.imul, 0, 0, 0), (.iadd, 0, 0, 0), (.iload_n 2, 0, 0, 0), (.iadd, 0, 0, 0), (.dup2, 0, 0, 0), (.iaload, 0, 0, 0), (.iload_n 3, 0, 0, 0), (.iadd, 0, 0, 0), (.iastore, 0, 0, 0), (.return_, 0, 0, 0)] = true := by decide +kernel
abbrev m9_layTrader : gM := (9, yX9_layTrader, cX9_layTrader, 6, none, [], none)
theorem k9_layTrader_0 : gAt m9_layTrader 0 [(.aload_n 0, 0, 0, 0), (.getfield 24, 9, 3, 0), (.iconst 5, 0, 0, 0), (.iaload, 0, 0, 0), (.istore 5, 0, 0, 0), (.aload_n 0, 0, 0, 0), (.getfield 24, 9, 3, 0), (.iconst 5, 0, 0, 0), (.dup2, 0, 0, 0), (.iaload, 0, 0, 0), (.iconst 1, 0, 0, 0), (.iadd, 0, 0, 0), (.iastore, 0, 0, 0), (.aload_n 0, 0, 0, 0), (.iload 5, 0, 0, 0), (.iconst 0, 0, 0, 0), (.iload_n 1, 0, 0, 0)] = true := by decide +kernel
theorem k9_layTrader_26 : gAt m9_layTrader 26 [(.aload_n 0, 0, 0, 0), (.iload 5, 0, 0, 0), (.iconst 1, 0, 0, 0), (.iload_n 2, 0, 0, 0)] = true := by decide +kernel
theorem k9_layTrader_34 : gAt m9_layTrader 34 [(.aload_n 0, 0, 0, 0), (.iload 5, 0, 0, 0), (.iconst 2, 0, 0, 0), (.iload_n 3, 0, 0, 0)] = true := by decide +kernel
theorem k9_layTrader_42 : gAt m9_layTrader 42 [(.aload_n 0, 0, 0, 0), (.iload 5, 0, 0, 0), (.iconst 3, 0, 0, 0), (.iload 4, 0, 0, 0)] = true := by decide +kernel
theorem k9_layTrader_51 : gAt m9_layTrader 51 [(.aload_n 0, 0, 0, 0), (.getfield 24, 9, 3, 0), (.bipush 12, 0, 0, 0), (.dup2, 0, 0, 0), (.iaload, 0, 0, 0), (.iload_n 3, 0, 0, 0), (.iadd, 0, 0, 0), (.iastore, 0, 0, 0), (.aload_n 0, 0, 0, 0), (.getfield 24, 9, 3, 0), (.bipush 13, 0, 0, 0), (.dup2, 0, 0, 0), (.iaload, 0, 0, 0), (.iload 4, 0, 0, 0), (.iadd, 0, 0, 0), (.iastore, 0, 0, 0), (.return_, 0, 0, 0)] = true := by decide +kernel
abbrev m9_of : gM := (9, yX9_of, cX9_of, 3, (some .int), [], none)
theorem k9_of_0 : gAt m9_of 0 [(.aload_n 0, 0, 0, 0), (.getfield 24, 9, 3, 0), (.bipush 48, 0, 0, 0), (.bipush 6, 0, 0, 0), (.iload_n 1, 0, 0, 0), (.imul, 0, 0, 0), (.iadd, 0, 0, 0), (.iload_n 2, 0, 0, 0), (.iadd, 0, 0, 0), (.iaload, 0, 0, 0), (.ireturn, 0, 0, 0)] = true := by decide +kernel
abbrev m9_set0 : gM := (9, yX9_set0, cX9_set0, 4, none, [], none)
theorem k9_set0_0 : gAt m9_set0 0 [(.aload_n 0, 0, 0, 0), (.getfield 24, 9, 3, 0), (.bipush 48, 0, 0, 0), (.bipush 6, 0, 0, 0), (.iload_n 1, 0, 0, 0), (.imul, 0, 0, 0), (.iadd, 0, 0, 0), (.iload_n 2, 0, 0, 0), (.iadd, 0, 0, 0), (.iload_n 3, 0, 0, 0), (.iastore, 0, 0, 0), (.return_, 0, 0, 0)] = true := by decide +kernel
abbrev m9_layOrder : gM := (9, yX9_layOrder, cX9_layOrder, 7, (some .int), [], none)
theorem k9_layOrder_0 : gAt m9_layOrder 0 [(.aload_n 0, 0, 0, 0), (.getfield 24, 9, 3, 0), (.bipush 6, 0, 0, 0), (.iaload, 0, 0, 0), (.istore 6, 0, 0, 0), (.aload_n 0, 0, 0, 0), (.getfield 24, 9, 3, 0), (.bipush 6, 0, 0, 0), (.dup2, 0, 0, 0), (.iaload, 0, 0, 0), (.iconst 1, 0, 0, 0), (.iadd, 0, 0, 0), (.iastore, 0, 0, 0), (.aload_n 0, 0, 0, 0), (.iload 6, 0, 0, 0), (.iconst 0, 0, 0, 0), (.aload_n 0, 0, 0, 0), (.getfield 24, 9, 3, 0), (.bipush 7, 0, 0, 0), (.iaload, 0, 0, 0)] = true := by decide +kernel
theorem k9_layOrder_34 : gAt m9_layOrder 34 [(.aload_n 0, 0, 0, 0), (.iload 6, 0, 0, 0), (.iconst 1, 0, 0, 0), (.iload_n 1, 0, 0, 0)] = true := by decide +kernel
theorem k9_layOrder_42 : gAt m9_layOrder 42 [(.aload_n 0, 0, 0, 0), (.iload 6, 0, 0, 0), (.iconst 2, 0, 0, 0), (.iload_n 2, 0, 0, 0)] = true := by decide +kernel
theorem k9_layOrder_50 : gAt m9_layOrder 50 [(.aload_n 0, 0, 0, 0), (.iload 6, 0, 0, 0), (.iconst 3, 0, 0, 0), (.iload_n 3, 0, 0, 0)] = true := by decide +kernel
theorem k9_layOrder_58 : gAt m9_layOrder 58 [(.aload_n 0, 0, 0, 0), (.iload 6, 0, 0, 0), (.iconst 4, 0, 0, 0), (.iload 4, 0, 0, 0)] = true := by decide +kernel
theorem k9_layOrder_67 : gAt m9_layOrder 67 [(.aload_n 0, 0, 0, 0), (.iload 6, 0, 0, 0), (.iconst 5, 0, 0, 0), (.aload_n 0, 0, 0, 0), (.getfield 24, 9, 3, 0), (.iconst 4, 0, 0, 0), (.iaload, 0, 0, 0), (.iload 5, 0, 0, 0), (.iadd, 0, 0, 0)] = true := by decide +kernel
theorem k9_layOrder_83 : gAt m9_layOrder 83 [(.aload_n 0, 0, 0, 0), (.getfield 24, 9, 3, 0), (.bipush 7, 0, 0, 0), (.dup2, 0, 0, 0), (.iaload, 0, 0, 0), (.iconst 1, 0, 0, 0), (.iadd, 0, 0, 0), (.iastore, 0, 0, 0), (.aload_n 0, 0, 0, 0), (.getfield 24, 9, 3, 0), (.bipush 15, 0, 0, 0), (.dup2, 0, 0, 0), (.iaload, 0, 0, 0), (.iload 4, 0, 0, 0), (.iadd, 0, 0, 0), (.iastore, 0, 0, 0), (.aload_n 0, 0, 0, 0), (.iload 6, 0, 0, 0), (.iconst 0, 0, 0, 0)] = true := by decide +kernel
theorem k9_layOrder_113 : gAt m9_layOrder 113 [(.ireturn, 0, 0, 0)] = true := by decide +kernel
abbrev m9_dropOrder : gM := (9, yX9_dropOrder, cX9_dropOrder, 3, none, [], none)
theorem k9_dropOrder_0 : gAt m9_dropOrder 0 [(.bipush 6, 0, 0, 0), (.iload_n 1, 0, 0, 0), (.imul, 0, 0, 0), (.istore_n 2, 0, 0, 0)] = true := by decide +kernel
theorem k9_dropOrder_5 : gAt m9_dropOrder 5 [(.iload_n 2, 0, 0, 0), (.bipush 6, 0, 0, 0), (.aload_n 0, 0, 0, 0), (.getfield 24, 9, 3, 0), (.bipush 6, 0, 0, 0), (.iaload, 0, 0, 0), (.iconst 1, 0, 0, 0), (.isub, 0, 0, 0), (.imul, 0, 0, 0), (.if_icmp .ge 30, 48, 0, 0), (.aload_n 0, 0, 0, 0), (.getfield 24, 9, 3, 0), (.bipush 48, 0, 0, 0), (.iload_n 2, 0, 0, 0), (.iadd, 0, 0, 0), (.aload_n 0, 0, 0, 0), (.getfield 24, 9, 3, 0), (.bipush 48, 0, 0, 0), (.iload_n 2, 0, 0, 0), (.iadd, 0, 0, 0), (.bipush 6, 0, 0, 0), (.iadd, 0, 0, 0), (.iaload, 0, 0, 0), (.iastore, 0, 0, 0), (.iinc 2 1, 0, 0, 0), (.goto (-40), 5, 0, 0)] = true := by decide +kernel
theorem k9_dropOrder_48 : gAt m9_dropOrder 48 [(.aload_n 0, 0, 0, 0), (.getfield 24, 9, 3, 0), (.bipush 6, 0, 0, 0), (.dup2, 0, 0, 0), (.iaload, 0, 0, 0), (.iconst 1, 0, 0, 0), (.isub, 0, 0, 0), (.iastore, 0, 0, 0), (.return_, 0, 0, 0)] = true := by decide +kernel
abbrev m9_indexOf : gM := (9, yX9_indexOf, cX9_indexOf, 3, (some .int), [], none)
theorem k9_indexOf_0 : gAt m9_indexOf 0 [(.iconst 0, 0, 0, 0), (.istore_n 2, 0, 0, 0)] = true := by decide +kernel
theorem k9_indexOf_2 : gAt m9_indexOf 2 [(.iload_n 2, 0, 0, 0), (.aload_n 0, 0, 0, 0), (.getfield 24, 9, 3, 0), (.bipush 6, 0, 0, 0), (.iaload, 0, 0, 0), (.if_icmp .ge 21, 31, 0, 0), (.aload_n 0, 0, 0, 0), (.iload_n 2, 0, 0, 0), (.iconst 0, 0, 0, 0)] = true := by decide +kernel
theorem k9_indexOf_19 : gAt m9_indexOf 19 [(.iload_n 1, 0, 0, 0), (.if_icmp .ne 5, 25, 0, 0), (.iload_n 2, 0, 0, 0), (.ireturn, 0, 0, 0)] = true := by decide +kernel
theorem k9_indexOf_25 : gAt m9_indexOf 25 [(.iinc 2 1, 0, 0, 0), (.goto (-26), 2, 0, 0)] = true := by decide +kernel
theorem k9_indexOf_31 : gAt m9_indexOf 31 [(.iconst (-1), 0, 0, 0), (.ireturn, 0, 0, 0)] = true := by decide +kernel
abbrev m9_free : gM := (9, yX9_free, cX9_free, 6, (some .int), [], none)
theorem k9_free_0 : gAt m9_free 0 [(.aload_n 0, 0, 0, 0), (.iload_n 1, 0, 0, 0), (.iload_n 2, 0, 0, 0), (.ifCond .ne 7, 10, 0, 0), (.iconst 2, 0, 0, 0), (.goto 4, 11, 0, 0)] = true := by decide +kernel
theorem k9_free_10 : gAt m9_free 10 [(.iconst 3, 0, 0, 0)] = true := by decide +kernel
theorem k9_free_14 : gAt m9_free 14 [(.istore_n 3, 0, 0, 0), (.iconst 0, 0, 0, 0), (.istore 4, 0, 0, 0)] = true := by decide +kernel
theorem k9_free_18 : gAt m9_free 18 [(.iload 4, 0, 0, 0), (.aload_n 0, 0, 0, 0), (.getfield 24, 9, 3, 0), (.bipush 6, 0, 0, 0), (.iaload, 0, 0, 0), (.if_icmp .ge 73, 100, 0, 0), (.aload_n 0, 0, 0, 0), (.iload 4, 0, 0, 0), (.iconst 1, 0, 0, 0)] = true := by decide +kernel
theorem k9_free_37 : gAt m9_free 37 [(.iload_n 1, 0, 0, 0), (.if_icmp .ne 18, 56, 0, 0), (.aload_n 0, 0, 0, 0), (.iload 4, 0, 0, 0), (.iconst 2, 0, 0, 0)] = true := by decide +kernel
theorem k9_free_48 : gAt m9_free 48 [(.iload_n 2, 0, 0, 0), (.if_icmp .ne 7, 56, 0, 0), (.iconst 1, 0, 0, 0), (.goto 4, 57, 0, 0)] = true := by decide +kernel
theorem k9_free_56 : gAt m9_free 56 [(.iconst 0, 0, 0, 0)] = true := by decide +kernel
theorem k9_free_57 : gAt m9_free 57 [(.istore 5, 0, 0, 0), (.iload_n 3, 0, 0, 0), (.iload 5, 0, 0, 0), (.ifCond .eq 29, 91, 0, 0), (.aload_n 0, 0, 0, 0), (.iload 4, 0, 0, 0), (.iconst 4, 0, 0, 0)] = true := by decide +kernel
theorem k9_free_72 : gAt m9_free 72 [(.iload_n 2, 0, 0, 0), (.ifCond .ne 13, 86, 0, 0), (.aload_n 0, 0, 0, 0), (.iload 4, 0, 0, 0), (.iconst 3, 0, 0, 0)] = true := by decide +kernel
theorem k9_free_83 : gAt m9_free 83 [(.goto 4, 87, 0, 0)] = true := by decide +kernel
theorem k9_free_86 : gAt m9_free 86 [(.iconst 1, 0, 0, 0)] = true := by decide +kernel
theorem k9_free_87 : gAt m9_free 87 [(.imul, 0, 0, 0), (.goto 4, 92, 0, 0)] = true := by decide +kernel
theorem k9_free_91 : gAt m9_free 91 [(.iconst 0, 0, 0, 0)] = true := by decide +kernel
theorem k9_free_92 : gAt m9_free 92 [(.isub, 0, 0, 0), (.istore_n 3, 0, 0, 0), (.iinc 4 1, 0, 0, 0), (.goto (-79), 18, 0, 0)] = true := by decide +kernel
theorem k9_free_100 : gAt m9_free 100 [(.iload_n 3, 0, 0, 0), (.ireturn, 0, 0, 0)] = true := by decide +kernel
abbrev m9_reasonNot : gM := (9, yX9_reasonNot, cX9_reasonNot, 5, (some .int), [], none)
theorem k9_reasonNot_0 : gAt m9_reasonNot 0 [(.aload_n 0, 0, 0, 0), (.getfield 24, 9, 3, 0), (.bipush 6, 0, 0, 0), (.iaload, 0, 0, 0), (.bipush 20, 0, 0, 0), (.if_icmp .ne 5, 14, 0, 0), (.iconst 1, 0, 0, 0), (.ireturn, 0, 0, 0)] = true := by decide +kernel
theorem k9_reasonNot_14 : gAt m9_reasonNot 14 [(.iload_n 2, 0, 0, 0), (.ifCond .ne 22, 37, 0, 0), (.aload_n 0, 0, 0, 0), (.iload_n 1, 0, 0, 0), (.iconst 0, 0, 0, 0)] = true := by decide +kernel
theorem k9_reasonNot_24 : gAt m9_reasonNot 24 [(.iload_n 3, 0, 0, 0), (.iload 4, 0, 0, 0), (.imul, 0, 0, 0), (.if_icmp .ge 7, 35, 0, 0), (.iconst 2, 0, 0, 0), (.goto 4, 36, 0, 0)] = true := by decide +kernel
theorem k9_reasonNot_35 : gAt m9_reasonNot 35 [(.iconst 0, 0, 0, 0)] = true := by decide +kernel
theorem k9_reasonNot_36 : gAt m9_reasonNot 36 [(.ireturn, 0, 0, 0)] = true := by decide +kernel
theorem k9_reasonNot_37 : gAt m9_reasonNot 37 [(.aload_n 0, 0, 0, 0), (.iload_n 1, 0, 0, 0), (.iconst 1, 0, 0, 0)] = true := by decide +kernel
theorem k9_reasonNot_43 : gAt m9_reasonNot 43 [(.iload 4, 0, 0, 0), (.if_icmp .ge 7, 52, 0, 0), (.iconst 3, 0, 0, 0), (.goto 4, 53, 0, 0)] = true := by decide +kernel
theorem k9_reasonNot_52 : gAt m9_reasonNot 52 [(.iconst 0, 0, 0, 0)] = true := by decide +kernel
theorem k9_reasonNot_53 : gAt m9_reasonNot 53 [(.ireturn, 0, 0, 0)] = true := by decide +kernel
abbrev m9_sumUp : gM := (9, yX9_sumUp, cX9_sumUp, 2, none, [], none)
theorem k9_sumUp_0 : gAt m9_sumUp 0 [(.iconst 0, 0, 0, 0), (.istore_n 1, 0, 0, 0)] = true := by decide +kernel
theorem k9_sumUp_2 : gAt m9_sumUp 2 [(.iload_n 1, 0, 0, 0), (.sipush 1000, 0, 0, 0), (.if_icmp .gt 23, 29, 0, 0), (.aload_n 0, 0, 0, 0), (.getfield 27, 9, 4, 0), (.iload_n 1, 0, 0, 0), (.iconst 0, 0, 0, 0), (.iastore, 0, 0, 0), (.aload_n 0, 0, 0, 0), (.getfield 30, 9, 5, 0), (.iload_n 1, 0, 0, 0), (.iconst 0, 0, 0, 0), (.iastore, 0, 0, 0), (.iinc 1 1, 0, 0, 0), (.goto (-24), 2, 0, 0)] = true := by decide +kernel
theorem k9_sumUp_29 : gAt m9_sumUp 29 [(.iconst 0, 0, 0, 0), (.istore_n 1, 0, 0, 0)] = true := by decide +kernel
theorem k9_sumUp_31 : gAt m9_sumUp 31 [(.iload_n 1, 0, 0, 0), (.aload_n 0, 0, 0, 0), (.getfield 24, 9, 3, 0), (.bipush 6, 0, 0, 0), (.iaload, 0, 0, 0), (.if_icmp .ge 61, 100, 0, 0), (.aload_n 0, 0, 0, 0), (.iload_n 1, 0, 0, 0), (.iconst 2, 0, 0, 0)] = true := by decide +kernel
theorem k9_sumUp_48 : gAt m9_sumUp 48 [(.ifCond .ne 26, 74, 0, 0), (.aload_n 0, 0, 0, 0), (.getfield 27, 9, 4, 0), (.aload_n 0, 0, 0, 0), (.iload_n 1, 0, 0, 0), (.iconst 3, 0, 0, 0)] = true := by decide +kernel
theorem k9_sumUp_61 : gAt m9_sumUp 61 [(.dup2, 0, 0, 0), (.iaload, 0, 0, 0), (.aload_n 0, 0, 0, 0), (.iload_n 1, 0, 0, 0), (.iconst 4, 0, 0, 0)] = true := by decide +kernel
theorem k9_sumUp_69 : gAt m9_sumUp 69 [(.iadd, 0, 0, 0), (.iastore, 0, 0, 0), (.goto 23, 94, 0, 0)] = true := by decide +kernel
theorem k9_sumUp_74 : gAt m9_sumUp 74 [(.aload_n 0, 0, 0, 0), (.getfield 30, 9, 5, 0), (.aload_n 0, 0, 0, 0), (.iload_n 1, 0, 0, 0), (.iconst 3, 0, 0, 0)] = true := by decide +kernel
theorem k9_sumUp_84 : gAt m9_sumUp 84 [(.dup2, 0, 0, 0), (.iaload, 0, 0, 0), (.aload_n 0, 0, 0, 0), (.iload_n 1, 0, 0, 0), (.iconst 4, 0, 0, 0)] = true := by decide +kernel
theorem k9_sumUp_92 : gAt m9_sumUp 92 [(.iadd, 0, 0, 0), (.iastore, 0, 0, 0)] = true := by decide +kernel
theorem k9_sumUp_94 : gAt m9_sumUp 94 [(.iinc 1 1, 0, 0, 0), (.goto (-66), 31, 0, 0)] = true := by decide +kernel
theorem k9_sumUp_100 : gAt m9_sumUp 100 [(.iconst 1, 0, 0, 0), (.istore_n 1, 0, 0, 0)] = true := by decide +kernel
theorem k9_sumUp_102 : gAt m9_sumUp 102 [(.iload_n 1, 0, 0, 0), (.sipush 999, 0, 0, 0), (.if_icmp .gt 51, 157, 0, 0), (.aload_n 0, 0, 0, 0), (.getfield 30, 9, 5, 0), (.iload_n 1, 0, 0, 0), (.dup2, 0, 0, 0), (.iaload, 0, 0, 0), (.aload_n 0, 0, 0, 0), (.getfield 30, 9, 5, 0), (.iload_n 1, 0, 0, 0), (.iconst 1, 0, 0, 0), (.isub, 0, 0, 0), (.iaload, 0, 0, 0), (.iadd, 0, 0, 0), (.iastore, 0, 0, 0), (.aload_n 0, 0, 0, 0), (.getfield 27, 9, 4, 0), (.sipush 999, 0, 0, 0), (.iload_n 1, 0, 0, 0), (.isub, 0, 0, 0), (.dup2, 0, 0, 0), (.iaload, 0, 0, 0), (.aload_n 0, 0, 0, 0), (.getfield 27, 9, 4, 0), (.sipush 999, 0, 0, 0), (.iload_n 1, 0, 0, 0), (.isub, 0, 0, 0), (.iconst 1, 0, 0, 0), (.iadd, 0, 0, 0), (.iaload, 0, 0, 0), (.iadd, 0, 0, 0), (.iastore, 0, 0, 0), (.iinc 1 1, 0, 0, 0), (.goto (-52), 102, 0, 0)] = true := by decide +kernel
theorem k9_sumUp_157 : gAt m9_sumUp 157 [(.return_, 0, 0, 0)] = true := by decide +kernel
abbrev m9_volume : gM := (9, yX9_volume, cX9_volume, 2, (some .int), [], none)
theorem k9_volume_0 : gAt m9_volume 0 [(.aload_n 0, 0, 0, 0), (.getfield 27, 9, 4, 0), (.iload_n 1, 0, 0, 0), (.iaload, 0, 0, 0), (.aload_n 0, 0, 0, 0), (.getfield 30, 9, 5, 0), (.iload_n 1, 0, 0, 0), (.iaload, 0, 0, 0)] = true := by decide +kernel
theorem k9_volume_15 : gAt m9_volume 15 [(.ireturn, 0, 0, 0)] = true := by decide +kernel
abbrev m9_isBetter : gM := (9, yX9_isBetter, cX9_isBetter, 4, (some .boolean), [], none)
theorem k9_isBetter_0 : gAt m9_isBetter 0 [(.aload_n 0, 0, 0, 0), (.iload_n 1, 0, 0, 0)] = true := by decide +kernel
theorem k9_isBetter_5 : gAt m9_isBetter 5 [(.aload_n 0, 0, 0, 0), (.iload_n 2, 0, 0, 0)] = true := by decide +kernel
theorem k9_isBetter_10 : gAt m9_isBetter 10 [(.isub, 0, 0, 0), (.istore_n 3, 0, 0, 0), (.iload_n 3, 0, 0, 0), (.ifCond .eq 13, 26, 0, 0), (.iload_n 3, 0, 0, 0), (.ifCond .le 7, 24, 0, 0), (.iconst 1, 0, 0, 0), (.goto 4, 25, 0, 0)] = true := by decide +kernel
theorem k9_isBetter_24 : gAt m9_isBetter 24 [(.iconst 0, 0, 0, 0)] = true := by decide +kernel
theorem k9_isBetter_25 : gAt m9_isBetter 25 [(.ireturn, 0, 0, 0)] = true := by decide +kernel
theorem k9_isBetter_26 : gAt m9_isBetter 26 [(.aload_n 0, 0, 0, 0), (.getfield 27, 9, 4, 0), (.iload_n 1, 0, 0, 0), (.iaload, 0, 0, 0), (.aload_n 0, 0, 0, 0), (.getfield 30, 9, 5, 0), (.iload_n 1, 0, 0, 0), (.iaload, 0, 0, 0), (.isub, 0, 0, 0)] = true := by decide +kernel
theorem k9_isBetter_42 : gAt m9_isBetter 42 [(.aload_n 0, 0, 0, 0), (.getfield 27, 9, 4, 0), (.iload_n 2, 0, 0, 0), (.iaload, 0, 0, 0), (.aload_n 0, 0, 0, 0), (.getfield 30, 9, 5, 0), (.iload_n 2, 0, 0, 0), (.iaload, 0, 0, 0), (.isub, 0, 0, 0)] = true := by decide +kernel
theorem k9_isBetter_58 : gAt m9_isBetter 58 [(.isub, 0, 0, 0), (.istore_n 3, 0, 0, 0), (.iload_n 3, 0, 0, 0), (.ifCond .eq 13, 74, 0, 0), (.iload_n 3, 0, 0, 0), (.ifCond .ge 7, 72, 0, 0), (.iconst 1, 0, 0, 0), (.goto 4, 73, 0, 0)] = true := by decide +kernel
theorem k9_isBetter_72 : gAt m9_isBetter 72 [(.iconst 0, 0, 0, 0)] = true := by decide +kernel
theorem k9_isBetter_73 : gAt m9_isBetter 73 [(.ireturn, 0, 0, 0)] = true := by decide +kernel
theorem k9_isBetter_74 : gAt m9_isBetter 74 [(.iload_n 1, 0, 0, 0), (.aload_n 0, 0, 0, 0), (.getfield 24, 9, 3, 0), (.iconst 1, 0, 0, 0), (.iaload, 0, 0, 0), (.isub, 0, 0, 0)] = true := by decide +kernel
theorem k9_isBetter_85 : gAt m9_isBetter 85 [(.iload_n 2, 0, 0, 0), (.aload_n 0, 0, 0, 0), (.getfield 24, 9, 3, 0), (.iconst 1, 0, 0, 0), (.iaload, 0, 0, 0), (.isub, 0, 0, 0)] = true := by decide +kernel
theorem k9_isBetter_96 : gAt m9_isBetter 96 [(.if_icmp .ge 7, 103, 0, 0), (.iconst 1, 0, 0, 0), (.goto 4, 104, 0, 0)] = true := by decide +kernel
theorem k9_isBetter_103 : gAt m9_isBetter 103 [(.iconst 0, 0, 0, 0)] = true := by decide +kernel
theorem k9_isBetter_104 : gAt m9_isBetter 104 [(.ireturn, 0, 0, 0)] = true := by decide +kernel
abbrev m9_priceNow : gM := (9, yX9_priceNow, cX9_priceNow, 3, (some .int), [], none)
theorem k9_priceNow_0 : gAt m9_priceNow 0 [(.aload_n 0, 0, 0, 0)] = true := by decide +kernel
theorem k9_priceNow_4 : gAt m9_priceNow 4 [(.iconst 1, 0, 0, 0), (.istore_n 1, 0, 0, 0), (.iconst 2, 0, 0, 0), (.istore_n 2, 0, 0, 0)] = true := by decide +kernel
theorem k9_priceNow_8 : gAt m9_priceNow 8 [(.iload_n 2, 0, 0, 0), (.sipush 999, 0, 0, 0), (.if_icmp .gt 24, 36, 0, 0), (.aload_n 0, 0, 0, 0), (.iload_n 2, 0, 0, 0), (.iload_n 1, 0, 0, 0)] = true := by decide +kernel
theorem k9_priceNow_21 : gAt m9_priceNow 21 [(.ifCond .eq 7, 28, 0, 0), (.iload_n 2, 0, 0, 0), (.goto 4, 29, 0, 0)] = true := by decide +kernel
theorem k9_priceNow_28 : gAt m9_priceNow 28 [(.iload_n 1, 0, 0, 0)] = true := by decide +kernel
theorem k9_priceNow_29 : gAt m9_priceNow 29 [(.istore_n 1, 0, 0, 0), (.iinc 2 1, 0, 0, 0), (.goto (-25), 8, 0, 0)] = true := by decide +kernel
theorem k9_priceNow_36 : gAt m9_priceNow 36 [(.aload_n 0, 0, 0, 0), (.iload_n 1, 0, 0, 0)] = true := by decide +kernel
theorem k9_priceNow_41 : gAt m9_priceNow 41 [(.ifCond .ne 7, 48, 0, 0), (.iconst (-1), 0, 0, 0), (.goto 4, 49, 0, 0)] = true := by decide +kernel
theorem k9_priceNow_48 : gAt m9_priceNow 48 [(.iload_n 1, 0, 0, 0)] = true := by decide +kernel
theorem k9_priceNow_49 : gAt m9_priceNow 49 [(.ireturn, 0, 0, 0)] = true := by decide +kernel
abbrev m9_takesPart : gM := (9, yX9_takesPart, cX9_takesPart, 5, (some .boolean), [], none)
theorem k9_takesPart_0 : gAt m9_takesPart 0 [(.aload_n 0, 0, 0, 0), (.iload_n 1, 0, 0, 0), (.iconst 3, 0, 0, 0)] = true := by decide +kernel
theorem k9_takesPart_6 : gAt m9_takesPart 6 [(.istore 4, 0, 0, 0), (.aload_n 0, 0, 0, 0), (.iload_n 1, 0, 0, 0), (.iconst 2, 0, 0, 0)] = true := by decide +kernel
theorem k9_takesPart_14 : gAt m9_takesPart 14 [(.iload_n 2, 0, 0, 0), (.if_icmp .ne 26, 41, 0, 0), (.iload_n 2, 0, 0, 0), (.ifCond .ne 12, 31, 0, 0), (.iload 4, 0, 0, 0), (.iload_n 3, 0, 0, 0), (.if_icmp .lt 16, 41, 0, 0), (.goto 9, 37, 0, 0)] = true := by decide +kernel
theorem k9_takesPart_31 : gAt m9_takesPart 31 [(.iload 4, 0, 0, 0), (.iload_n 3, 0, 0, 0), (.if_icmp .gt 7, 41, 0, 0)] = true := by decide +kernel
theorem k9_takesPart_37 : gAt m9_takesPart 37 [(.iconst 1, 0, 0, 0), (.goto 4, 42, 0, 0)] = true := by decide +kernel
theorem k9_takesPart_41 : gAt m9_takesPart 41 [(.iconst 0, 0, 0, 0)] = true := by decide +kernel
theorem k9_takesPart_42 : gAt m9_takesPart 42 [(.ireturn, 0, 0, 0)] = true := by decide +kernel
abbrev m9_hasBetter : gM := (9, yX9_hasBetter, cX9_hasBetter, 4, (some .boolean), [], none)
theorem k9_hasBetter_0 : gAt m9_hasBetter 0 [(.iload_n 3, 0, 0, 0), (.ifCond .ne 26, 27, 0, 0), (.aload_n 0, 0, 0, 0), (.iload_n 1, 0, 0, 0), (.iconst 3, 0, 0, 0)] = true := by decide +kernel
theorem k9_hasBetter_10 : gAt m9_hasBetter 10 [(.aload_n 0, 0, 0, 0), (.iload_n 2, 0, 0, 0), (.iconst 3, 0, 0, 0)] = true := by decide +kernel
theorem k9_hasBetter_16 : gAt m9_hasBetter 16 [(.if_icmp .le 7, 23, 0, 0), (.iconst 1, 0, 0, 0), (.goto 27, 47, 0, 0)] = true := by decide +kernel
theorem k9_hasBetter_23 : gAt m9_hasBetter 23 [(.iconst 0, 0, 0, 0), (.goto 23, 47, 0, 0)] = true := by decide +kernel
theorem k9_hasBetter_27 : gAt m9_hasBetter 27 [(.aload_n 0, 0, 0, 0), (.iload_n 1, 0, 0, 0), (.iconst 3, 0, 0, 0)] = true := by decide +kernel
theorem k9_hasBetter_33 : gAt m9_hasBetter 33 [(.aload_n 0, 0, 0, 0), (.iload_n 2, 0, 0, 0), (.iconst 3, 0, 0, 0)] = true := by decide +kernel
theorem k9_hasBetter_39 : gAt m9_hasBetter 39 [(.if_icmp .ge 7, 46, 0, 0), (.iconst 1, 0, 0, 0), (.goto 4, 47, 0, 0)] = true := by decide +kernel
theorem k9_hasBetter_46 : gAt m9_hasBetter 46 [(.iconst 0, 0, 0, 0)] = true := by decide +kernel
theorem k9_hasBetter_47 : gAt m9_hasBetter 47 [(.ireturn, 0, 0, 0)] = true := by decide +kernel
abbrev m9_isAhead : gM := (9, yX9_isAhead, cX9_isAhead, 4, (some .boolean), [], none)
theorem k9_isAhead_0 : gAt m9_isAhead 0 [(.aload_n 0, 0, 0, 0), (.iload_n 1, 0, 0, 0), (.iload_n 2, 0, 0, 0), (.iload_n 3, 0, 0, 0)] = true := by decide +kernel
theorem k9_isAhead_7 : gAt m9_isAhead 7 [(.ifCond .ne 23, 30, 0, 0), (.aload_n 0, 0, 0, 0), (.iload_n 1, 0, 0, 0), (.iconst 3, 0, 0, 0)] = true := by decide +kernel
theorem k9_isAhead_16 : gAt m9_isAhead 16 [(.aload_n 0, 0, 0, 0), (.iload_n 2, 0, 0, 0), (.iconst 3, 0, 0, 0)] = true := by decide +kernel
theorem k9_isAhead_22 : gAt m9_isAhead 22 [(.if_icmp .ne 12, 34, 0, 0), (.iload_n 1, 0, 0, 0), (.iload_n 2, 0, 0, 0), (.if_icmp .ge 7, 34, 0, 0)] = true := by decide +kernel
theorem k9_isAhead_30 : gAt m9_isAhead 30 [(.iconst 1, 0, 0, 0), (.goto 4, 35, 0, 0)] = true := by decide +kernel
theorem k9_isAhead_34 : gAt m9_isAhead 34 [(.iconst 0, 0, 0, 0)] = true := by decide +kernel
theorem k9_isAhead_35 : gAt m9_isAhead 35 [(.ireturn, 0, 0, 0)] = true := by decide +kernel
abbrev m9_quantityAhead : gM := (9, yX9_quantityAhead, cX9_quantityAhead, 6, (some .int), [], none)
theorem k9_quantityAhead_0 : gAt m9_quantityAhead 0 [(.iconst 0, 0, 0, 0), (.istore 4, 0, 0, 0), (.iconst 0, 0, 0, 0), (.istore 5, 0, 0, 0)] = true := by decide +kernel
theorem k9_quantityAhead_6 : gAt m9_quantityAhead 6 [(.iload 5, 0, 0, 0), (.aload_n 0, 0, 0, 0), (.getfield 24, 9, 3, 0), (.bipush 6, 0, 0, 0), (.iaload, 0, 0, 0), (.if_icmp .ge 47, 62, 0, 0), (.iload 4, 0, 0, 0), (.aload_n 0, 0, 0, 0), (.iload 5, 0, 0, 0), (.iload_n 2, 0, 0, 0), (.iload_n 3, 0, 0, 0)] = true := by decide +kernel
theorem k9_quantityAhead_28 : gAt m9_quantityAhead 28 [(.ifCond .eq 24, 52, 0, 0), (.aload_n 0, 0, 0, 0), (.iload 5, 0, 0, 0), (.iload_n 1, 0, 0, 0), (.iload_n 2, 0, 0, 0)] = true := by decide +kernel
theorem k9_quantityAhead_39 : gAt m9_quantityAhead 39 [(.ifCond .eq 13, 52, 0, 0), (.aload_n 0, 0, 0, 0), (.iload 5, 0, 0, 0), (.iconst 4, 0, 0, 0)] = true := by decide +kernel
theorem k9_quantityAhead_49 : gAt m9_quantityAhead 49 [(.goto 4, 53, 0, 0)] = true := by decide +kernel
theorem k9_quantityAhead_52 : gAt m9_quantityAhead 52 [(.iconst 0, 0, 0, 0)] = true := by decide +kernel
theorem k9_quantityAhead_53 : gAt m9_quantityAhead 53 [(.iadd, 0, 0, 0), (.istore 4, 0, 0, 0), (.iinc 5 1, 0, 0, 0), (.goto (-53), 6, 0, 0)] = true := by decide +kernel
theorem k9_quantityAhead_62 : gAt m9_quantityAhead 62 [(.iload 4, 0, 0, 0), (.ireturn, 0, 0, 0)] = true := by decide +kernel
abbrev m9_fillSide : gM := (9, yX9_fillSide, cX9_fillSide, 7, none, [], none)
theorem k9_fillSide_0 : gAt m9_fillSide 0 [(.iconst (-1), 0, 0, 0), (.istore 4, 0, 0, 0), (.iconst 0, 0, 0, 0), (.istore 5, 0, 0, 0)] = true := by decide +kernel
theorem k9_fillSide_6 : gAt m9_fillSide 6 [(.iload 5, 0, 0, 0), (.aload_n 0, 0, 0, 0), (.getfield 24, 9, 3, 0), (.bipush 6, 0, 0, 0), (.iaload, 0, 0, 0), (.if_icmp .ge 81, 96, 0, 0), (.aload_n 0, 0, 0, 0), (.iload 5, 0, 0, 0), (.iload_n 1, 0, 0, 0), (.iload_n 2, 0, 0, 0)] = true := by decide +kernel
theorem k9_fillSide_26 : gAt m9_fillSide 26 [(.ifCond .eq 64, 90, 0, 0), (.iload_n 3, 0, 0, 0), (.aload_n 0, 0, 0, 0), (.iload 5, 0, 0, 0), (.iload_n 1, 0, 0, 0), (.iload_n 2, 0, 0, 0)] = true := by decide +kernel
theorem k9_fillSide_38 : gAt m9_fillSide 38 [(.isub, 0, 0, 0), (.istore 6, 0, 0, 0), (.aload_n 0, 0, 0, 0), (.getfield 33, 9, 6, 0), (.iload 5, 0, 0, 0), (.iconst 0, 0, 0, 0), (.iload 6, 0, 0, 0), (.aload_n 0, 0, 0, 0), (.iload 5, 0, 0, 0), (.iconst 4, 0, 0, 0)] = true := by decide +kernel
theorem k9_fillSide_63 : gAt m9_fillSide 63 [(.iastore, 0, 0, 0), (.iload 6, 0, 0, 0), (.ifCond .le 20, 86, 0, 0), (.iload 6, 0, 0, 0), (.aload_n 0, 0, 0, 0), (.iload 5, 0, 0, 0), (.iconst 4, 0, 0, 0)] = true := by decide +kernel
theorem k9_fillSide_78 : gAt m9_fillSide 78 [(.if_icmp .gt 8, 86, 0, 0), (.iload 5, 0, 0, 0), (.goto 5, 88, 0, 0)] = true := by decide +kernel
theorem k9_fillSide_86 : gAt m9_fillSide 86 [(.iload 4, 0, 0, 0)] = true := by decide +kernel
theorem k9_fillSide_88 : gAt m9_fillSide 88 [(.istore 4, 0, 0, 0)] = true := by decide +kernel
theorem k9_fillSide_90 : gAt m9_fillSide 90 [(.iinc 5 1, 0, 0, 0), (.goto (-87), 6, 0, 0)] = true := by decide +kernel
theorem k9_fillSide_96 : gAt m9_fillSide 96 [(.aload_n 0, 0, 0, 0), (.getfield 24, 9, 3, 0), (.iconst 3, 0, 0, 0), (.iaload, 0, 0, 0), (.iconst 1, 0, 0, 0), (.if_icmp .ne 17, 120, 0, 0), (.iload 4, 0, 0, 0), (.iconst (-1), 0, 0, 0), (.if_icmp .eq 11, 120, 0, 0), (.aload_n 0, 0, 0, 0), (.iload_n 1, 0, 0, 0), (.iload 4, 0, 0, 0), (.iload_n 3, 0, 0, 0)] = true := by decide +kernel
theorem k9_fillSide_120 : gAt m9_fillSide 120 [(.return_, 0, 0, 0)] = true := by decide +kernel
abbrev m9_shareOut : gM := (9, yX9_shareOut, cX9_shareOut, 9, none, [], none)
theorem k9_shareOut_0 : gAt m9_shareOut 0 [(.iload_n 3, 0, 0, 0), (.istore 4, 0, 0, 0), (.iconst 0, 0, 0, 0), (.istore 5, 0, 0, 0), (.iconst 0, 0, 0, 0), (.istore 6, 0, 0, 0)] = true := by decide +kernel
theorem k9_shareOut_9 : gAt m9_shareOut 9 [(.iload 6, 0, 0, 0), (.aload_n 0, 0, 0, 0), (.getfield 24, 9, 3, 0), (.bipush 6, 0, 0, 0), (.iaload, 0, 0, 0), (.if_icmp .ge 79, 97, 0, 0), (.aload_n 0, 0, 0, 0), (.iload 6, 0, 0, 0), (.iconst 2, 0, 0, 0)] = true := by decide +kernel
theorem k9_shareOut_28 : gAt m9_shareOut 28 [(.iload_n 1, 0, 0, 0), (.if_icmp .ne 62, 91, 0, 0), (.iload 4, 0, 0, 0), (.aload_n 0, 0, 0, 0), (.iload 6, 0, 0, 0), (.iload_n 2, 0, 0, 0), (.iload_n 1, 0, 0, 0)] = true := by decide +kernel
theorem k9_shareOut_42 : gAt m9_shareOut 42 [(.ifCond .eq 13, 55, 0, 0), (.aload_n 0, 0, 0, 0), (.iload 6, 0, 0, 0), (.iconst 4, 0, 0, 0)] = true := by decide +kernel
theorem k9_shareOut_52 : gAt m9_shareOut 52 [(.goto 4, 56, 0, 0)] = true := by decide +kernel
theorem k9_shareOut_55 : gAt m9_shareOut 55 [(.iconst 0, 0, 0, 0)] = true := by decide +kernel
theorem k9_shareOut_56 : gAt m9_shareOut 56 [(.isub, 0, 0, 0), (.istore 4, 0, 0, 0), (.iload 5, 0, 0, 0), (.aload_n 0, 0, 0, 0), (.iload 6, 0, 0, 0), (.iconst 3, 0, 0, 0)] = true := by decide +kernel
theorem k9_shareOut_68 : gAt m9_shareOut 68 [(.aload_n 0, 0, 0, 0), (.iload_n 2, 0, 0, 0), (.iconst 3, 0, 0, 0)] = true := by decide +kernel
theorem k9_shareOut_74 : gAt m9_shareOut 74 [(.if_icmp .ne 13, 87, 0, 0), (.aload_n 0, 0, 0, 0), (.iload 6, 0, 0, 0), (.iconst 4, 0, 0, 0)] = true := by decide +kernel
theorem k9_shareOut_84 : gAt m9_shareOut 84 [(.goto 4, 88, 0, 0)] = true := by decide +kernel
theorem k9_shareOut_87 : gAt m9_shareOut 87 [(.iconst 0, 0, 0, 0)] = true := by decide +kernel
theorem k9_shareOut_88 : gAt m9_shareOut 88 [(.iadd, 0, 0, 0), (.istore 5, 0, 0, 0)] = true := by decide +kernel
theorem k9_shareOut_91 : gAt m9_shareOut 91 [(.iinc 6 1, 0, 0, 0), (.goto (-85), 9, 0, 0)] = true := by decide +kernel
theorem k9_shareOut_97 : gAt m9_shareOut 97 [(.iload 4, 0, 0, 0), (.istore 6, 0, 0, 0), (.iconst 0, 0, 0, 0), (.istore 7, 0, 0, 0)] = true := by decide +kernel
theorem k9_shareOut_104 : gAt m9_shareOut 104 [(.iload 7, 0, 0, 0), (.aload_n 0, 0, 0, 0), (.getfield 24, 9, 3, 0), (.bipush 6, 0, 0, 0), (.iaload, 0, 0, 0), (.if_icmp .ge 68, 181, 0, 0), (.aload_n 0, 0, 0, 0), (.iload 7, 0, 0, 0), (.iconst 2, 0, 0, 0)] = true := by decide +kernel
theorem k9_shareOut_123 : gAt m9_shareOut 123 [(.iload_n 1, 0, 0, 0), (.if_icmp .ne 51, 175, 0, 0), (.aload_n 0, 0, 0, 0), (.iload 7, 0, 0, 0), (.iconst 3, 0, 0, 0)] = true := by decide +kernel
theorem k9_shareOut_134 : gAt m9_shareOut 134 [(.aload_n 0, 0, 0, 0), (.iload_n 2, 0, 0, 0), (.iconst 3, 0, 0, 0)] = true := by decide +kernel
theorem k9_shareOut_140 : gAt m9_shareOut 140 [(.if_icmp .ne 35, 175, 0, 0), (.aload_n 0, 0, 0, 0), (.getfield 33, 9, 6, 0), (.iload 7, 0, 0, 0), (.aload_n 0, 0, 0, 0), (.iload 7, 0, 0, 0), (.iconst 4, 0, 0, 0)] = true := by decide +kernel
theorem k9_shareOut_156 : gAt m9_shareOut 156 [(.iload 4, 0, 0, 0), (.imul, 0, 0, 0), (.iload 5, 0, 0, 0), (.idiv, 0, 0, 0), (.iastore, 0, 0, 0), (.iload 6, 0, 0, 0), (.aload_n 0, 0, 0, 0), (.getfield 33, 9, 6, 0), (.iload 7, 0, 0, 0), (.iaload, 0, 0, 0), (.isub, 0, 0, 0), (.istore 6, 0, 0, 0)] = true := by decide +kernel
theorem k9_shareOut_175 : gAt m9_shareOut 175 [(.iinc 7 1, 0, 0, 0), (.goto (-74), 104, 0, 0)] = true := by decide +kernel
theorem k9_shareOut_181 : gAt m9_shareOut 181 [(.iconst 0, 0, 0, 0), (.istore 7, 0, 0, 0)] = true := by decide +kernel
theorem k9_shareOut_184 : gAt m9_shareOut 184 [(.iload 7, 0, 0, 0), (.aload_n 0, 0, 0, 0), (.getfield 24, 9, 3, 0), (.bipush 6, 0, 0, 0), (.iaload, 0, 0, 0), (.if_icmp .ge 100, 293, 0, 0), (.iload 6, 0, 0, 0), (.ifCond .le 95, 293, 0, 0), (.aload_n 0, 0, 0, 0), (.iload 7, 0, 0, 0), (.iconst 2, 0, 0, 0)] = true := by decide +kernel
theorem k9_shareOut_208 : gAt m9_shareOut 208 [(.iload_n 1, 0, 0, 0), (.if_icmp .ne 40, 249, 0, 0), (.aload_n 0, 0, 0, 0), (.iload 7, 0, 0, 0), (.iconst 3, 0, 0, 0)] = true := by decide +kernel
theorem k9_shareOut_219 : gAt m9_shareOut 219 [(.aload_n 0, 0, 0, 0), (.iload_n 2, 0, 0, 0), (.iconst 3, 0, 0, 0)] = true := by decide +kernel
theorem k9_shareOut_225 : gAt m9_shareOut 225 [(.if_icmp .ne 24, 249, 0, 0), (.aload_n 0, 0, 0, 0), (.getfield 33, 9, 6, 0), (.iload 7, 0, 0, 0), (.iaload, 0, 0, 0), (.aload_n 0, 0, 0, 0), (.iload 7, 0, 0, 0), (.iconst 4, 0, 0, 0)] = true := by decide +kernel
theorem k9_shareOut_242 : gAt m9_shareOut 242 [(.if_icmp .ge 7, 249, 0, 0), (.iconst 1, 0, 0, 0), (.goto 4, 250, 0, 0)] = true := by decide +kernel
theorem k9_shareOut_249 : gAt m9_shareOut 249 [(.iconst 0, 0, 0, 0)] = true := by decide +kernel
theorem k9_shareOut_250 : gAt m9_shareOut 250 [(.istore 8, 0, 0, 0), (.aload_n 0, 0, 0, 0), (.getfield 33, 9, 6, 0), (.iload 7, 0, 0, 0), (.dup2, 0, 0, 0), (.iaload, 0, 0, 0), (.iload 8, 0, 0, 0), (.ifCond .eq 7, 269, 0, 0), (.iconst 1, 0, 0, 0), (.goto 4, 270, 0, 0)] = true := by decide +kernel
theorem k9_shareOut_269 : gAt m9_shareOut 269 [(.iconst 0, 0, 0, 0)] = true := by decide +kernel
theorem k9_shareOut_270 : gAt m9_shareOut 270 [(.iadd, 0, 0, 0), (.iastore, 0, 0, 0), (.iload 6, 0, 0, 0), (.iload 8, 0, 0, 0), (.ifCond .eq 7, 283, 0, 0), (.iconst 1, 0, 0, 0), (.goto 4, 284, 0, 0)] = true := by decide +kernel
theorem k9_shareOut_283 : gAt m9_shareOut 283 [(.iconst 0, 0, 0, 0)] = true := by decide +kernel
theorem k9_shareOut_284 : gAt m9_shareOut 284 [(.isub, 0, 0, 0), (.istore 6, 0, 0, 0), (.iinc 7 1, 0, 0, 0), (.goto (-106), 184, 0, 0)] = true := by decide +kernel
theorem k9_shareOut_293 : gAt m9_shareOut 293 [(.return_, 0, 0, 0)] = true := by decide +kernel
abbrev m9_fillAll : gM := (9, yX9_fillAll, cX9_fillAll, 3, (some .int), [], none)
theorem k9_fillAll_0 : gAt m9_fillAll 0 [(.iconst 0, 0, 0, 0), (.istore_n 1, 0, 0, 0)] = true := by decide +kernel
theorem k9_fillAll_2 : gAt m9_fillAll 2 [(.iload_n 1, 0, 0, 0), (.bipush 20, 0, 0, 0), (.if_icmp .gt 16, 21, 0, 0), (.aload_n 0, 0, 0, 0), (.getfield 33, 9, 6, 0), (.iload_n 1, 0, 0, 0), (.iconst 0, 0, 0, 0), (.iastore, 0, 0, 0), (.iinc 1 1, 0, 0, 0), (.goto (-16), 2, 0, 0)] = true := by decide +kernel
theorem k9_fillAll_21 : gAt m9_fillAll 21 [(.aload_n 0, 0, 0, 0)] = true := by decide +kernel
theorem k9_fillAll_25 : gAt m9_fillAll 25 [(.istore_n 1, 0, 0, 0), (.iload_n 1, 0, 0, 0), (.iconst (-1), 0, 0, 0), (.if_icmp .eq 23, 51, 0, 0), (.aload_n 0, 0, 0, 0), (.iload_n 1, 0, 0, 0)] = true := by decide +kernel
theorem k9_fillAll_36 : gAt m9_fillAll 36 [(.istore_n 2, 0, 0, 0), (.aload_n 0, 0, 0, 0), (.iconst 0, 0, 0, 0), (.iload_n 1, 0, 0, 0), (.iload_n 2, 0, 0, 0)] = true := by decide +kernel
theorem k9_fillAll_44 : gAt m9_fillAll 44 [(.aload_n 0, 0, 0, 0), (.iconst 1, 0, 0, 0), (.iload_n 1, 0, 0, 0), (.iload_n 2, 0, 0, 0)] = true := by decide +kernel
theorem k9_fillAll_51 : gAt m9_fillAll 51 [(.iload_n 1, 0, 0, 0), (.ireturn, 0, 0, 0)] = true := by decide +kernel
abbrev m9_stops : gM := (9, yX9_stops, cX9_stops, 2, (some .boolean), [], none)
theorem k9_stops_0 : gAt m9_stops 0 [(.iload_n 1, 0, 0, 0), (.iconst (-1), 0, 0, 0), (.if_icmp .eq 36, 38, 0, 0), (.aload_n 0, 0, 0, 0), (.getfield 24, 9, 3, 0), (.iconst 2, 0, 0, 0), (.iaload, 0, 0, 0), (.ifCond .eq 27, 38, 0, 0), (.iload_n 1, 0, 0, 0), (.aload_n 0, 0, 0, 0), (.getfield 24, 9, 3, 0), (.iconst 1, 0, 0, 0), (.iaload, 0, 0, 0), (.isub, 0, 0, 0)] = true := by decide +kernel
theorem k9_stops_25 : gAt m9_stops 25 [(.aload_n 0, 0, 0, 0), (.getfield 24, 9, 3, 0), (.iconst 2, 0, 0, 0), (.iaload, 0, 0, 0), (.if_icmp .le 7, 38, 0, 0), (.iconst 1, 0, 0, 0), (.goto 4, 39, 0, 0)] = true := by decide +kernel
theorem k9_stops_38 : gAt m9_stops 38 [(.iconst 0, 0, 0, 0)] = true := by decide +kernel
theorem k9_stops_39 : gAt m9_stops 39 [(.ireturn, 0, 0, 0)] = true := by decide +kernel
abbrev m9_trade : gM := (9, yX9_trade, cX9_trade, 6, none, [], none)
theorem k9_trade_0 : gAt m9_trade 0 [(.aload_n 0, 0, 0, 0), (.iload_n 1, 0, 0, 0), (.iconst 1, 0, 0, 0)] = true := by decide +kernel
theorem k9_trade_6 : gAt m9_trade 6 [(.istore_n 3, 0, 0, 0), (.aload_n 0, 0, 0, 0), (.getfield 33, 9, 6, 0), (.iload_n 1, 0, 0, 0), (.iaload, 0, 0, 0), (.istore 4, 0, 0, 0), (.aload_n 0, 0, 0, 0), (.iload_n 1, 0, 0, 0), (.iconst 2, 0, 0, 0)] = true := by decide +kernel
theorem k9_trade_21 : gAt m9_trade 21 [(.ifCond .ne 7, 28, 0, 0), (.iconst 1, 0, 0, 0), (.goto 4, 29, 0, 0)] = true := by decide +kernel
theorem k9_trade_28 : gAt m9_trade 28 [(.iconst 0, 0, 0, 0)] = true := by decide +kernel
theorem k9_trade_29 : gAt m9_trade 29 [(.istore 5, 0, 0, 0), (.aload_n 0, 0, 0, 0), (.iload_n 3, 0, 0, 0), (.iconst 2, 0, 0, 0), (.iload 5, 0, 0, 0), (.ifCond .eq 11, 47, 0, 0), (.iload 4, 0, 0, 0), (.ineg, 0, 0, 0), (.iload_n 2, 0, 0, 0), (.imul, 0, 0, 0), (.goto 7, 51, 0, 0)] = true := by decide +kernel
theorem k9_trade_47 : gAt m9_trade 47 [(.iload 4, 0, 0, 0), (.iload_n 2, 0, 0, 0), (.imul, 0, 0, 0)] = true := by decide +kernel
theorem k9_trade_54 : gAt m9_trade 54 [(.aload_n 0, 0, 0, 0), (.iload_n 3, 0, 0, 0), (.iconst 3, 0, 0, 0), (.iload 5, 0, 0, 0), (.ifCond .eq 8, 67, 0, 0), (.iload 4, 0, 0, 0), (.goto 6, 70, 0, 0)] = true := by decide +kernel
theorem k9_trade_67 : gAt m9_trade 67 [(.iload 4, 0, 0, 0), (.ineg, 0, 0, 0)] = true := by decide +kernel
theorem k9_trade_73 : gAt m9_trade 73 [(.aload_n 0, 0, 0, 0), (.iload_n 1, 0, 0, 0), (.iconst 4, 0, 0, 0), (.aload_n 0, 0, 0, 0), (.iload_n 1, 0, 0, 0), (.iconst 4, 0, 0, 0)] = true := by decide +kernel
theorem k9_trade_82 : gAt m9_trade 82 [(.iload 4, 0, 0, 0), (.isub, 0, 0, 0)] = true := by decide +kernel
theorem k9_trade_88 : gAt m9_trade 88 [(.aload_n 0, 0, 0, 0), (.getfield 24, 9, 3, 0), (.bipush 8, 0, 0, 0), (.dup2, 0, 0, 0), (.iaload, 0, 0, 0), (.iload 5, 0, 0, 0), (.ifCond .eq 8, 106, 0, 0), (.iload 4, 0, 0, 0), (.goto 4, 107, 0, 0)] = true := by decide +kernel
theorem k9_trade_106 : gAt m9_trade 106 [(.iconst 0, 0, 0, 0)] = true := by decide +kernel
theorem k9_trade_107 : gAt m9_trade 107 [(.iadd, 0, 0, 0), (.iastore, 0, 0, 0), (.aload_n 0, 0, 0, 0), (.getfield 24, 9, 3, 0), (.bipush 14, 0, 0, 0), (.dup2, 0, 0, 0), (.iaload, 0, 0, 0), (.iload 5, 0, 0, 0), (.ifCond .eq 10, 129, 0, 0), (.iload 4, 0, 0, 0), (.iload_n 2, 0, 0, 0), (.imul, 0, 0, 0), (.goto 4, 130, 0, 0)] = true := by decide +kernel
theorem k9_trade_129 : gAt m9_trade 129 [(.iconst 0, 0, 0, 0)] = true := by decide +kernel
theorem k9_trade_130 : gAt m9_trade 130 [(.iadd, 0, 0, 0), (.iastore, 0, 0, 0), (.return_, 0, 0, 0)] = true := by decide +kernel
abbrev m9_dropEmpty : gM := (9, yX9_dropEmpty, cX9_dropEmpty, 2, none, [], none)
theorem k9_dropEmpty_0 : gAt m9_dropEmpty 0 [(.aload_n 0, 0, 0, 0), (.getfield 24, 9, 3, 0), (.bipush 6, 0, 0, 0), (.iaload, 0, 0, 0), (.iconst 1, 0, 0, 0), (.isub, 0, 0, 0), (.istore_n 1, 0, 0, 0)] = true := by decide +kernel
theorem k9_dropEmpty_10 : gAt m9_dropEmpty 10 [(.iload_n 1, 0, 0, 0), (.ifCond .lt 23, 34, 0, 0), (.aload_n 0, 0, 0, 0), (.iload_n 1, 0, 0, 0), (.iconst 4, 0, 0, 0)] = true := by decide +kernel
theorem k9_dropEmpty_20 : gAt m9_dropEmpty 20 [(.ifCond .ne 8, 28, 0, 0), (.aload_n 0, 0, 0, 0), (.iload_n 1, 0, 0, 0)] = true := by decide +kernel
theorem k9_dropEmpty_28 : gAt m9_dropEmpty 28 [(.iinc 1 (-1), 0, 0, 0), (.goto (-21), 10, 0, 0)] = true := by decide +kernel
theorem k9_dropEmpty_34 : gAt m9_dropEmpty 34 [(.return_, 0, 0, 0)] = true := by decide +kernel
abbrev m9_cryNow : gM := (9, yX9_cryNow, cX9_cryNow, 3, none, [], none)
theorem k9_cryNow_0 : gAt m9_cryNow 0 [(.aload_n 0, 0, 0, 0)] = true := by decide +kernel
theorem k9_cryNow_4 : gAt m9_cryNow 4 [(.istore_n 1, 0, 0, 0), (.iload_n 1, 0, 0, 0), (.iconst (-1), 0, 0, 0), (.if_icmp .ne 4, 11, 0, 0), (.return_, 0, 0, 0)] = true := by decide +kernel
theorem k9_cryNow_11 : gAt m9_cryNow 11 [(.aload_n 0, 0, 0, 0), (.iload_n 1, 0, 0, 0)] = true := by decide +kernel
theorem k9_cryNow_16 : gAt m9_cryNow 16 [(.ifCond .eq 50, 66, 0, 0), (.aload_n 0, 0, 0, 0), (.getfield 24, 9, 3, 0), (.iconst 1, 0, 0, 0), (.dup2, 0, 0, 0), (.iaload, 0, 0, 0), (.iload_n 1, 0, 0, 0), (.aload_n 0, 0, 0, 0), (.getfield 24, 9, 3, 0), (.iconst 1, 0, 0, 0), (.iaload, 0, 0, 0), (.if_icmp .le 12, 45, 0, 0), (.aload_n 0, 0, 0, 0), (.getfield 24, 9, 3, 0), (.iconst 2, 0, 0, 0), (.iaload, 0, 0, 0), (.goto 10, 52, 0, 0)] = true := by decide +kernel
theorem k9_cryNow_45 : gAt m9_cryNow 45 [(.aload_n 0, 0, 0, 0), (.getfield 24, 9, 3, 0), (.iconst 2, 0, 0, 0), (.iaload, 0, 0, 0), (.ineg, 0, 0, 0)] = true := by decide +kernel
theorem k9_cryNow_52 : gAt m9_cryNow 52 [(.iadd, 0, 0, 0), (.iastore, 0, 0, 0), (.aload_n 0, 0, 0, 0), (.getfield 24, 9, 3, 0), (.bipush 10, 0, 0, 0), (.dup2, 0, 0, 0), (.iaload, 0, 0, 0), (.iconst 1, 0, 0, 0), (.iadd, 0, 0, 0), (.iastore, 0, 0, 0), (.return_, 0, 0, 0)] = true := by decide +kernel
theorem k9_cryNow_66 : gAt m9_cryNow 66 [(.iconst 0, 0, 0, 0), (.istore_n 2, 0, 0, 0)] = true := by decide +kernel
theorem k9_cryNow_68 : gAt m9_cryNow 68 [(.iload_n 2, 0, 0, 0), (.aload_n 0, 0, 0, 0), (.getfield 24, 9, 3, 0), (.bipush 6, 0, 0, 0), (.iaload, 0, 0, 0), (.if_icmp .ge 15, 91, 0, 0), (.aload_n 0, 0, 0, 0), (.iload_n 2, 0, 0, 0), (.iload_n 1, 0, 0, 0)] = true := by decide +kernel
theorem k9_cryNow_85 : gAt m9_cryNow 85 [(.iinc 2 1, 0, 0, 0), (.goto (-20), 68, 0, 0)] = true := by decide +kernel
theorem k9_cryNow_91 : gAt m9_cryNow 91 [(.aload_n 0, 0, 0, 0)] = true := by decide +kernel
theorem k9_cryNow_95 : gAt m9_cryNow 95 [(.aload_n 0, 0, 0, 0), (.getfield 24, 9, 3, 0), (.iconst 1, 0, 0, 0), (.iload_n 1, 0, 0, 0), (.iastore, 0, 0, 0), (.aload_n 0, 0, 0, 0), (.getfield 24, 9, 3, 0), (.bipush 9, 0, 0, 0), (.dup2, 0, 0, 0), (.iaload, 0, 0, 0), (.iconst 1, 0, 0, 0), (.iadd, 0, 0, 0), (.iastore, 0, 0, 0), (.return_, 0, 0, 0)] = true := by decide +kernel
abbrev m9_passOne : gM := (9, yX9_passOne, cX9_passOne, 2, none, [], none)
theorem k9_passOne_0 : gAt m9_passOne 0 [(.aload_n 0, 0, 0, 0), (.getfield 24, 9, 3, 0), (.iconst 4, 0, 0, 0), (.dup2, 0, 0, 0), (.iaload, 0, 0, 0), (.iconst 1, 0, 0, 0), (.iadd, 0, 0, 0), (.iastore, 0, 0, 0), (.aload_n 0, 0, 0, 0), (.getfield 24, 9, 3, 0), (.bipush 6, 0, 0, 0), (.iaload, 0, 0, 0), (.iconst 1, 0, 0, 0), (.isub, 0, 0, 0), (.istore_n 1, 0, 0, 0)] = true := by decide +kernel
theorem k9_passOne_20 : gAt m9_passOne 20 [(.iload_n 1, 0, 0, 0), (.ifCond .lt 40, 61, 0, 0), (.aload_n 0, 0, 0, 0), (.iload_n 1, 0, 0, 0), (.iconst 5, 0, 0, 0)] = true := by decide +kernel
theorem k9_passOne_30 : gAt m9_passOne 30 [(.aload_n 0, 0, 0, 0), (.getfield 24, 9, 3, 0), (.iconst 4, 0, 0, 0), (.iaload, 0, 0, 0), (.if_icmp .ge 19, 55, 0, 0), (.aload_n 0, 0, 0, 0), (.iload_n 1, 0, 0, 0)] = true := by decide +kernel
theorem k9_passOne_44 : gAt m9_passOne 44 [(.aload_n 0, 0, 0, 0), (.getfield 24, 9, 3, 0), (.bipush 11, 0, 0, 0), (.dup2, 0, 0, 0), (.iaload, 0, 0, 0), (.iconst 1, 0, 0, 0), (.iadd, 0, 0, 0), (.iastore, 0, 0, 0)] = true := by decide +kernel
theorem k9_passOne_55 : gAt m9_passOne 55 [(.iinc 1 (-1), 0, 0, 0), (.goto (-38), 20, 0, 0)] = true := by decide +kernel
theorem k9_passOne_61 : gAt m9_passOne 61 [(.aload_n 0, 0, 0, 0), (.getfield 24, 9, 3, 0), (.iconst 4, 0, 0, 0), (.iaload, 0, 0, 0), (.aload_n 0, 0, 0, 0), (.getfield 24, 9, 3, 0), (.iconst 0, 0, 0, 0), (.iaload, 0, 0, 0), (.irem, 0, 0, 0), (.ifCond .ne 7, 81, 0, 0), (.aload_n 0, 0, 0, 0)] = true := by decide +kernel
theorem k9_passOne_81 : gAt m9_passOne 81 [(.return_, 0, 0, 0)] = true := by decide +kernel
abbrev m9_walk : gM := (9, yX9_walk, cX9_walk, 3, none, [], none)
theorem k9_walk_0 : gAt m9_walk 0 [(.iconst 0, 0, 0, 0), (.istore_n 2, 0, 0, 0)] = true := by decide +kernel
theorem k9_walk_2 : gAt m9_walk 2 [(.iload_n 2, 0, 0, 0), (.iload_n 1, 0, 0, 0), (.if_icmp .ge 13, 17, 0, 0), (.aload_n 0, 0, 0, 0)] = true := by decide +kernel
theorem k9_walk_11 : gAt m9_walk 11 [(.iinc 2 1, 0, 0, 0), (.goto (-12), 2, 0, 0)] = true := by decide +kernel
theorem k9_walk_17 : gAt m9_walk 17 [(.return_, 0, 0, 0)] = true := by decide +kernel
abbrev m9_byteAt : gM := (9, yX9_byteAt, cX9_byteAt, 2, (some .int), [], none)
theorem k9_byteAt_0 : gAt m9_byteAt 0 [(.iload_n 1, 0, 0, 0), (.aload_n 0, 0, 0, 0), (.getfield 246, 9, 8, 0), (.if_icmp .ge 16, 21, 0, 0), (.aload_n 0, 0, 0, 0), (.getfield 36, 9, 7, 0), (.iload_n 1, 0, 0, 0), (.baload, 0, 0, 0), (.sipush 255, 0, 0, 0), (.iand, 0, 0, 0), (.goto 4, 22, 0, 0)] = true := by decide +kernel
theorem k9_byteAt_21 : gAt m9_byteAt 21 [(.iconst (-1), 0, 0, 0)] = true := by decide +kernel
theorem k9_byteAt_22 : gAt m9_byteAt 22 [(.ireturn, 0, 0, 0)] = true := by decide +kernel
abbrev m9_isLetter : gM := (9, yX9_isLetter, cX9_isLetter, 1, (some .boolean), [], none)
theorem k9_isLetter_0 : gAt m9_isLetter 0 [(.iload_n 0, 0, 0, 0), (.bipush 97, 0, 0, 0), (.if_icmp .lt 13, 16, 0, 0), (.iload_n 0, 0, 0, 0), (.bipush 122, 0, 0, 0), (.if_icmp .gt 7, 16, 0, 0), (.iconst 1, 0, 0, 0), (.goto 4, 17, 0, 0)] = true := by decide +kernel
theorem k9_isLetter_16 : gAt m9_isLetter 16 [(.iconst 0, 0, 0, 0)] = true := by decide +kernel
theorem k9_isLetter_17 : gAt m9_isLetter 17 [(.ireturn, 0, 0, 0)] = true := by decide +kernel
abbrev m9_isDigit : gM := (9, yX9_isDigit, cX9_isDigit, 1, (some .boolean), [], none)
theorem k9_isDigit_0 : gAt m9_isDigit 0 [(.iload_n 0, 0, 0, 0), (.bipush 48, 0, 0, 0), (.if_icmp .lt 13, 16, 0, 0), (.iload_n 0, 0, 0, 0), (.bipush 57, 0, 0, 0), (.if_icmp .gt 7, 16, 0, 0), (.iconst 1, 0, 0, 0), (.goto 4, 17, 0, 0)] = true := by decide +kernel
theorem k9_isDigit_16 : gAt m9_isDigit 16 [(.iconst 0, 0, 0, 0)] = true := by decide +kernel
theorem k9_isDigit_17 : gAt m9_isDigit 17 [(.ireturn, 0, 0, 0)] = true := by decide +kernel
abbrev m9_goOn : gM := (9, yX9_goOn, cX9_goOn, 2, none, [], none)
theorem k9_goOn_0 : gAt m9_goOn 0 [(.aload_n 0, 0, 0, 0), (.aload_n 0, 0, 0, 0), (.getfield 249, 9, 9, 0)] = true := by decide +kernel
theorem k9_goOn_8 : gAt m9_goOn 8 [(.bipush 32, 0, 0, 0), (.if_icmp .eq 16, 26, 0, 0), (.aload_n 0, 0, 0, 0), (.aload_n 0, 0, 0, 0), (.getfield 249, 9, 9, 0)] = true := by decide +kernel
theorem k9_goOn_21 : gAt m9_goOn 21 [(.bipush 10, 0, 0, 0), (.if_icmp .ne 16, 39, 0, 0)] = true := by decide +kernel
theorem k9_goOn_26 : gAt m9_goOn 26 [(.aload_n 0, 0, 0, 0), (.dup, 0, 0, 0), (.getfield 249, 9, 9, 0), (.iconst 1, 0, 0, 0), (.iadd, 0, 0, 0), (.putfield 249, 9, 9, 0), (.goto (-36), 0, 0, 0)] = true := by decide +kernel
theorem k9_goOn_39 : gAt m9_goOn 39 [(.aload_n 0, 0, 0, 0), (.aload_n 0, 0, 0, 0), (.getfield 249, 9, 9, 0), (.putfield 255, 9, 11, 0), (.aload_n 0, 0, 0, 0), (.iconst 0, 0, 0, 0), (.putfield 258, 9, 12, 0), (.aload_n 0, 0, 0, 0), (.lconst 0, 0, 0, 0), (.putfield 261, 9, 13, 1), (.aload_n 0, 0, 0, 0), (.iconst 0, 0, 0, 0), (.putfield 264, 9, 14, 0), (.aload_n 0, 0, 0, 0), (.aload_n 0, 0, 0, 0), (.getfield 249, 9, 9, 0)] = true := by decide +kernel
theorem k9_goOn_70 : gAt m9_goOn 70 [(.istore_n 1, 0, 0, 0), (.iload_n 1, 0, 0, 0), (.iconst (-1), 0, 0, 0), (.if_icmp .ne 11, 84, 0, 0), (.aload_n 0, 0, 0, 0), (.iconst 0, 0, 0, 0), (.putfield 267, 9, 10, 0), (.goto 193, 274, 0, 0)] = true := by decide +kernel
theorem k9_goOn_84 : gAt m9_goOn 84 [(.iload_n 1, 0, 0, 0)] = true := by decide +kernel
theorem k9_goOn_88 : gAt m9_goOn 88 [(.ifCond .eq 88, 176, 0, 0), (.aload_n 0, 0, 0, 0), (.iconst 1, 0, 0, 0), (.putfield 267, 9, 10, 0)] = true := by decide +kernel
theorem k9_goOn_96 : gAt m9_goOn 96 [(.aload_n 0, 0, 0, 0), (.aload_n 0, 0, 0, 0), (.getfield 249, 9, 9, 0)] = true := by decide +kernel
theorem k9_goOn_107 : gAt m9_goOn 107 [(.ifCond .eq 167, 274, 0, 0), (.aload_n 0, 0, 0, 0), (.aload_n 0, 0, 0, 0), (.getfield 258, 9, 12, 0), (.bipush 8, 0, 0, 0), (.if_icmp .ge 30, 147, 0, 0), (.ldc2_w 273, 0, 0, 0), (.aload_n 0, 0, 0, 0), (.getfield 261, 9, 13, 0), (.lmul, 0, 0, 0), (.aload_n 0, 0, 0, 0), (.aload_n 0, 0, 0, 0), (.getfield 249, 9, 9, 0)] = true := by decide +kernel
theorem k9_goOn_136 : gAt m9_goOn 136 [(.i2l, 0, 0, 0), (.ladd, 0, 0, 0), (.ldc2_w 275, 0, 1, 0), (.lsub, 0, 0, 0), (.lconst 1, 0, 0, 0), (.ladd, 0, 0, 0), (.goto 6, 150, 0, 0)] = true := by decide +kernel
theorem k9_goOn_147 : gAt m9_goOn 147 [(.ldc2_w 277, 0, 2, 0)] = true := by decide +kernel
theorem k9_goOn_150 : gAt m9_goOn 150 [(.putfield 261, 9, 13, 1), (.aload_n 0, 0, 0, 0), (.dup, 0, 0, 0), (.getfield 258, 9, 12, 0), (.iconst 1, 0, 0, 0), (.iadd, 0, 0, 0), (.putfield 258, 9, 12, 0), (.aload_n 0, 0, 0, 0), (.dup, 0, 0, 0), (.getfield 249, 9, 9, 0), (.iconst 1, 0, 0, 0), (.iadd, 0, 0, 0), (.putfield 249, 9, 9, 0), (.goto (-77), 96, 0, 0)] = true := by decide +kernel
theorem k9_goOn_176 : gAt m9_goOn 176 [(.iload_n 1, 0, 0, 0)] = true := by decide +kernel
theorem k9_goOn_180 : gAt m9_goOn 180 [(.ifCond .eq 74, 254, 0, 0), (.aload_n 0, 0, 0, 0), (.iconst 2, 0, 0, 0), (.putfield 267, 9, 10, 0)] = true := by decide +kernel
theorem k9_goOn_188 : gAt m9_goOn 188 [(.aload_n 0, 0, 0, 0), (.aload_n 0, 0, 0, 0), (.getfield 249, 9, 9, 0)] = true := by decide +kernel
theorem k9_goOn_199 : gAt m9_goOn 199 [(.ifCond .eq 75, 274, 0, 0), (.aload_n 0, 0, 0, 0), (.aload_n 0, 0, 0, 0), (.getfield 264, 9, 14, 0), (.ldc_w 282, 0, 4, 0), (.if_icmp .le 9, 219, 0, 0), (.ldc_w 283, 0, 5, 0), (.goto 22, 238, 0, 0)] = true := by decide +kernel
theorem k9_goOn_219 : gAt m9_goOn 219 [(.bipush 10, 0, 0, 0), (.aload_n 0, 0, 0, 0), (.getfield 264, 9, 14, 0), (.imul, 0, 0, 0), (.aload_n 0, 0, 0, 0), (.aload_n 0, 0, 0, 0), (.getfield 249, 9, 9, 0)] = true := by decide +kernel
theorem k9_goOn_234 : gAt m9_goOn 234 [(.iadd, 0, 0, 0), (.bipush 48, 0, 0, 0), (.isub, 0, 0, 0)] = true := by decide +kernel
theorem k9_goOn_238 : gAt m9_goOn 238 [(.putfield 264, 9, 14, 0), (.aload_n 0, 0, 0, 0), (.dup, 0, 0, 0), (.getfield 249, 9, 9, 0), (.iconst 1, 0, 0, 0), (.iadd, 0, 0, 0), (.putfield 249, 9, 9, 0), (.goto (-63), 188, 0, 0)] = true := by decide +kernel
theorem k9_goOn_254 : gAt m9_goOn 254 [(.aload_n 0, 0, 0, 0), (.iconst 3, 0, 0, 0), (.putfield 267, 9, 10, 0), (.aload_n 0, 0, 0, 0), (.iload_n 1, 0, 0, 0), (.putfield 264, 9, 14, 0), (.aload_n 0, 0, 0, 0), (.dup, 0, 0, 0), (.getfield 249, 9, 9, 0), (.iconst 1, 0, 0, 0), (.iadd, 0, 0, 0), (.putfield 249, 9, 9, 0)] = true := by decide +kernel
theorem k9_goOn_274 : gAt m9_goOn 274 [(.return_, 0, 0, 0)] = true := by decide +kernel
abbrev m9_startText : gM := (9, yX9_startText, cX9_startText, 1, none, [], none)
theorem k9_startText_0 : gAt m9_startText 0 [(.aload_n 0, 0, 0, 0), (.iconst 0, 0, 0, 0), (.putfield 249, 9, 9, 0), (.aload_n 0, 0, 0, 0), (.iconst 0, 0, 0, 0), (.putfield 284, 9, 15, 0), (.aload_n 0, 0, 0, 0)] = true := by decide +kernel
theorem k9_startText_14 : gAt m9_startText 14 [(.return_, 0, 0, 0)] = true := by decide +kernel
abbrev m9_fault : gM := (9, yX9_fault, cX9_fault, 2, none, [], none)
theorem k9_fault_0 : gAt m9_fault 0 [(.aload_n 0, 0, 0, 0), (.getfield 284, 9, 15, 0), (.ifCond .ne 16, 20, 0, 0), (.aload_n 0, 0, 0, 0), (.iload_n 1, 0, 0, 0), (.putfield 284, 9, 15, 0), (.aload_n 0, 0, 0, 0), (.aload_n 0, 0, 0, 0), (.getfield 255, 9, 11, 0), (.putfield 290, 9, 16, 0)] = true := by decide +kernel
theorem k9_fault_20 : gAt m9_fault 20 [(.return_, 0, 0, 0)] = true := by decide +kernel
abbrev m9_isGood : gM := (9, yX9_isGood, cX9_isGood, 1, (some .boolean), [], none)
theorem k9_isGood_0 : gAt m9_isGood 0 [(.aload_n 0, 0, 0, 0), (.getfield 284, 9, 15, 0), (.ifCond .ne 7, 11, 0, 0), (.iconst 1, 0, 0, 0), (.goto 4, 12, 0, 0)] = true := by decide +kernel
theorem k9_isGood_11 : gAt m9_isGood 11 [(.iconst 0, 0, 0, 0)] = true := by decide +kernel
theorem k9_isGood_12 : gAt m9_isGood 12 [(.ireturn, 0, 0, 0)] = true := by decide +kernel
abbrev m9_spell : gM := (9, yX9_spell, cX9_spell, 4, (some .long), [], none)
theorem k9_spell_0 : gAt m9_spell 0 [(.lconst 0, 0, 0, 0), (.lstore_n 1, 0, 0, 0), (.iconst 0, 0, 0, 0), (.istore_n 3, 0, 0, 0)] = true := by decide +kernel
theorem k9_spell_4 : gAt m9_spell 4 [(.iload_n 3, 0, 0, 0), (.aload_n 0, 0, 0, 0)] = true := by decide +kernel
theorem k9_spell_9 : gAt m9_spell 9 [(.if_icmp .ge 28, 37, 0, 0), (.ldc2_w 273, 0, 0, 0), (.lload_n 1, 0, 0, 0), (.lmul, 0, 0, 0), (.aload_n 0, 0, 0, 0), (.iload_n 3, 0, 0, 0)] = true := by decide +kernel
theorem k9_spell_22 : gAt m9_spell 22 [(.i2l, 0, 0, 0), (.ladd, 0, 0, 0), (.ldc2_w 275, 0, 1, 0), (.lsub, 0, 0, 0), (.lconst 1, 0, 0, 0), (.ladd, 0, 0, 0), (.lstore_n 1, 0, 0, 0), (.iinc 3 1, 0, 0, 0), (.goto (-30), 4, 0, 0)] = true := by decide +kernel
theorem k9_spell_37 : gAt m9_spell 37 [(.lload_n 1, 0, 0, 0), (.lreturn, 0, 0, 0)] = true := by decide +kernel
abbrev m9_isWord : gM := (9, yX9_isWord, cX9_isWord, 3, (some .boolean), [], none)
theorem k9_isWord_0 : gAt m9_isWord 0 [(.aload_n 0, 0, 0, 0), (.getfield 267, 9, 10, 0), (.iconst 1, 0, 0, 0), (.if_icmp .ne 25, 30, 0, 0), (.aload_n 0, 0, 0, 0), (.getfield 258, 9, 12, 0), (.bipush 8, 0, 0, 0), (.if_icmp .gt 16, 30, 0, 0), (.aload_n 0, 0, 0, 0), (.getfield 261, 9, 13, 0), (.lload_n 1, 0, 0, 0), (.lcmp, 0, 0, 0), (.ifCond .ne 7, 30, 0, 0), (.iconst 1, 0, 0, 0), (.goto 4, 31, 0, 0)] = true := by decide +kernel
theorem k9_isWord_30 : gAt m9_isWord 30 [(.iconst 0, 0, 0, 0)] = true := by decide +kernel
theorem k9_isWord_31 : gAt m9_isWord 31 [(.ireturn, 0, 0, 0)] = true := by decide +kernel
abbrev m9_lookNumber : gM := (9, yX9_lookNumber, cX9_lookNumber, 3, (some .int), [], none)
theorem k9_lookNumber_0 : gAt m9_lookNumber 0 [(.aload_n 0, 0, 0, 0)] = true := by decide +kernel
theorem k9_lookNumber_4 : gAt m9_lookNumber 4 [(.ifCond .ne 5, 9, 0, 0), (.iload_n 1, 0, 0, 0), (.ireturn, 0, 0, 0)] = true := by decide +kernel
theorem k9_lookNumber_9 : gAt m9_lookNumber 9 [(.aload_n 0, 0, 0, 0), (.getfield 267, 9, 10, 0), (.iconst 2, 0, 0, 0), (.if_icmp .eq 11, 25, 0, 0), (.aload_n 0, 0, 0, 0), (.iconst 1, 0, 0, 0)] = true := by decide +kernel
theorem k9_lookNumber_22 : gAt m9_lookNumber 22 [(.goto 23, 45, 0, 0)] = true := by decide +kernel
theorem k9_lookNumber_25 : gAt m9_lookNumber 25 [(.aload_n 0, 0, 0, 0), (.getfield 264, 9, 14, 0), (.i2l, 0, 0, 0), (.iload_n 1, 0, 0, 0), (.i2l, 0, 0, 0), (.iload_n 2, 0, 0, 0), (.i2l, 0, 0, 0)] = true := by decide +kernel
theorem k9_lookNumber_37 : gAt m9_lookNumber 37 [(.ifCond .ne 8, 45, 0, 0), (.aload_n 0, 0, 0, 0), (.iconst 2, 0, 0, 0)] = true := by decide +kernel
theorem k9_lookNumber_45 : gAt m9_lookNumber 45 [(.aload_n 0, 0, 0, 0)] = true := by decide +kernel
theorem k9_lookNumber_49 : gAt m9_lookNumber 49 [(.ifCond .eq 10, 59, 0, 0), (.aload_n 0, 0, 0, 0), (.getfield 264, 9, 14, 0), (.goto 4, 60, 0, 0)] = true := by decide +kernel
theorem k9_lookNumber_59 : gAt m9_lookNumber 59 [(.iload_n 1, 0, 0, 0)] = true := by decide +kernel
theorem k9_lookNumber_60 : gAt m9_lookNumber 60 [(.ireturn, 0, 0, 0)] = true := by decide +kernel
abbrev m9_passToken : gM := (9, yX9_passToken, cX9_passToken, 1, none, [], none)
theorem k9_passToken_0 : gAt m9_passToken 0 [(.aload_n 0, 0, 0, 0)] = true := by decide +kernel
theorem k9_passToken_4 : gAt m9_passToken 4 [(.ifCond .eq 7, 11, 0, 0), (.aload_n 0, 0, 0, 0)] = true := by decide +kernel
theorem k9_passToken_11 : gAt m9_passToken 11 [(.return_, 0, 0, 0)] = true := by decide +kernel
abbrev m9_takeNumber : gM := (9, yX9_takeNumber, cX9_takeNumber, 4, (some .int), [], none)
theorem k9_takeNumber_0 : gAt m9_takeNumber 0 [(.aload_n 0, 0, 0, 0), (.iload_n 1, 0, 0, 0), (.iload_n 2, 0, 0, 0)] = true := by decide +kernel
theorem k9_takeNumber_6 : gAt m9_takeNumber 6 [(.istore_n 3, 0, 0, 0), (.aload_n 0, 0, 0, 0)] = true := by decide +kernel
theorem k9_takeNumber_11 : gAt m9_takeNumber 11 [(.iload_n 3, 0, 0, 0), (.ireturn, 0, 0, 0)] = true := by decide +kernel
abbrev m9_requireNot : gM := (9, yX9_requireNot, cX9_requireNot, 3, none, [], none)
theorem k9_requireNot_0 : gAt m9_requireNot 0 [(.aload_n 0, 0, 0, 0)] = true := by decide +kernel
theorem k9_requireNot_4 : gAt m9_requireNot 4 [(.ifCond .eq 12, 16, 0, 0), (.iload_n 1, 0, 0, 0), (.ifCond .eq 8, 16, 0, 0), (.aload_n 0, 0, 0, 0), (.iload_n 2, 0, 0, 0)] = true := by decide +kernel
theorem k9_requireNot_16 : gAt m9_requireNot 16 [(.return_, 0, 0, 0)] = true := by decide +kernel
abbrev m9_takeEnd : gM := (9, yX9_takeEnd, cX9_takeEnd, 1, none, [], none)
theorem k9_takeEnd_0 : gAt m9_takeEnd 0 [(.aload_n 0, 0, 0, 0)] = true := by decide +kernel
theorem k9_takeEnd_4 : gAt m9_takeEnd 4 [(.ifCond .ne 4, 8, 0, 0), (.return_, 0, 0, 0)] = true := by decide +kernel
theorem k9_takeEnd_8 : gAt m9_takeEnd 8 [(.aload_n 0, 0, 0, 0), (.getfield 267, 9, 10, 0), (.iconst 3, 0, 0, 0), (.if_icmp .ne 12, 25, 0, 0), (.aload_n 0, 0, 0, 0), (.getfield 264, 9, 14, 0), (.bipush 59, 0, 0, 0), (.if_icmp .eq 8, 30, 0, 0)] = true := by decide +kernel
theorem k9_takeEnd_25 : gAt m9_takeEnd 25 [(.aload_n 0, 0, 0, 0), (.iconst 1, 0, 0, 0)] = true := by decide +kernel
theorem k9_takeEnd_30 : gAt m9_takeEnd 30 [(.aload_n 0, 0, 0, 0)] = true := by decide +kernel
theorem k9_takeEnd_34 : gAt m9_takeEnd 34 [(.return_, 0, 0, 0)] = true := by decide +kernel
abbrev m9_traderHere : gM := (9, yX9_traderHere, cX9_traderHere, 2, (some .int), [], none)
theorem k9_traderHere_0 : gAt m9_traderHere 0 [(.iconst 0, 0, 0, 0), (.istore_n 1, 0, 0, 0)] = true := by decide +kernel
theorem k9_traderHere_2 : gAt m9_traderHere 2 [(.iload_n 1, 0, 0, 0), (.aload_n 0, 0, 0, 0), (.getfield 24, 9, 3, 0), (.iconst 5, 0, 0, 0), (.iaload, 0, 0, 0), (.if_icmp .ge 47, 56, 0, 0), (.aload_n 0, 0, 0, 0), (.getfield 267, 9, 10, 0), (.iconst 1, 0, 0, 0), (.if_icmp .ne 33, 50, 0, 0), (.aload_n 0, 0, 0, 0), (.iload_n 1, 0, 0, 0), (.iconst 1, 0, 0, 0)] = true := by decide +kernel
theorem k9_traderHere_26 : gAt m9_traderHere 26 [(.aload_n 0, 0, 0, 0), (.getfield 258, 9, 12, 0), (.if_icmp .ne 20, 50, 0, 0), (.aload_n 0, 0, 0, 0), (.iload_n 1, 0, 0, 0), (.iconst 0, 0, 0, 0)] = true := by decide +kernel
theorem k9_traderHere_39 : gAt m9_traderHere 39 [(.i2l, 0, 0, 0), (.aload_n 0, 0, 0, 0), (.getfield 261, 9, 13, 0), (.lcmp, 0, 0, 0), (.ifCond .ne 5, 50, 0, 0), (.iload_n 1, 0, 0, 0), (.ireturn, 0, 0, 0)] = true := by decide +kernel
theorem k9_traderHere_50 : gAt m9_traderHere 50 [(.iinc 1 1, 0, 0, 0), (.goto (-51), 2, 0, 0)] = true := by decide +kernel
theorem k9_traderHere_56 : gAt m9_traderHere 56 [(.iconst (-1), 0, 0, 0), (.ireturn, 0, 0, 0)] = true := by decide +kernel
abbrev m9_takeTrader : gM := (9, yX9_takeTrader, cX9_takeTrader, 3, (some .int), [], none)
theorem k9_takeTrader_0 : gAt m9_takeTrader 0 [(.aload_n 0, 0, 0, 0)] = true := by decide +kernel
theorem k9_takeTrader_4 : gAt m9_takeTrader 4 [(.ifCond .ne 5, 9, 0, 0), (.iconst 0, 0, 0, 0), (.ireturn, 0, 0, 0)] = true := by decide +kernel
theorem k9_takeTrader_9 : gAt m9_takeTrader 9 [(.aload_n 0, 0, 0, 0)] = true := by decide +kernel
theorem k9_takeTrader_13 : gAt m9_takeTrader 13 [(.istore_n 2, 0, 0, 0), (.aload_n 0, 0, 0, 0), (.aload_n 0, 0, 0, 0), (.getfield 267, 9, 10, 0), (.iconst 1, 0, 0, 0), (.if_icmp .eq 7, 27, 0, 0), (.iconst 1, 0, 0, 0), (.goto 4, 28, 0, 0)] = true := by decide +kernel
theorem k9_takeTrader_27 : gAt m9_takeTrader 27 [(.iconst 0, 0, 0, 0)] = true := by decide +kernel
theorem k9_takeTrader_28 : gAt m9_takeTrader 28 [(.iconst 1, 0, 0, 0)] = true := by decide +kernel
theorem k9_takeTrader_32 : gAt m9_takeTrader 32 [(.aload_n 0, 0, 0, 0), (.iload_n 2, 0, 0, 0), (.iconst (-1), 0, 0, 0), (.if_icmp .eq 12, 47, 0, 0), (.iload_n 2, 0, 0, 0), (.iload_n 1, 0, 0, 0), (.if_icmp .ne 7, 47, 0, 0), (.iconst 1, 0, 0, 0), (.goto 4, 48, 0, 0)] = true := by decide +kernel
theorem k9_takeTrader_47 : gAt m9_takeTrader 47 [(.iconst 0, 0, 0, 0)] = true := by decide +kernel
theorem k9_takeTrader_48 : gAt m9_takeTrader 48 [(.iconst 3, 0, 0, 0)] = true := by decide +kernel
theorem k9_takeTrader_52 : gAt m9_takeTrader 52 [(.aload_n 0, 0, 0, 0), (.iload_n 2, 0, 0, 0), (.iconst (-1), 0, 0, 0), (.if_icmp .ne 7, 62, 0, 0), (.iconst 1, 0, 0, 0), (.goto 4, 63, 0, 0)] = true := by decide +kernel
theorem k9_takeTrader_62 : gAt m9_takeTrader 62 [(.iconst 0, 0, 0, 0)] = true := by decide +kernel
theorem k9_takeTrader_63 : gAt m9_takeTrader 63 [(.iconst 4, 0, 0, 0)] = true := by decide +kernel
theorem k9_takeTrader_67 : gAt m9_takeTrader 67 [(.aload_n 0, 0, 0, 0)] = true := by decide +kernel
theorem k9_takeTrader_71 : gAt m9_takeTrader 71 [(.iconst 0, 0, 0, 0), (.iload_n 2, 0, 0, 0)] = true := by decide +kernel
theorem k9_takeTrader_76 : gAt m9_takeTrader 76 [(.ireturn, 0, 0, 0)] = true := by decide +kernel
abbrev m9_takeOrder : gM := (9, yX9_takeOrder, cX9_takeOrder, 2, (some .int), [], none)
theorem k9_takeOrder_0 : gAt m9_takeOrder 0 [(.aload_n 0, 0, 0, 0)] = true := by decide +kernel
theorem k9_takeOrder_4 : gAt m9_takeOrder 4 [(.ifCond .ne 5, 9, 0, 0), (.iconst 0, 0, 0, 0), (.ireturn, 0, 0, 0)] = true := by decide +kernel
theorem k9_takeOrder_9 : gAt m9_takeOrder 9 [(.aload_n 0, 0, 0, 0), (.aload_n 0, 0, 0, 0), (.getfield 267, 9, 10, 0), (.iconst 2, 0, 0, 0), (.if_icmp .eq 7, 22, 0, 0), (.iconst 1, 0, 0, 0), (.goto 4, 23, 0, 0)] = true := by decide +kernel
theorem k9_takeOrder_22 : gAt m9_takeOrder 22 [(.iconst 0, 0, 0, 0)] = true := by decide +kernel
theorem k9_takeOrder_23 : gAt m9_takeOrder 23 [(.iconst 1, 0, 0, 0)] = true := by decide +kernel
theorem k9_takeOrder_27 : gAt m9_takeOrder 27 [(.aload_n 0, 0, 0, 0)] = true := by decide +kernel
theorem k9_takeOrder_31 : gAt m9_takeOrder 31 [(.ifCond .eq 14, 45, 0, 0), (.aload_n 0, 0, 0, 0), (.aload_n 0, 0, 0, 0), (.getfield 264, 9, 14, 0)] = true := by decide +kernel
theorem k9_takeOrder_42 : gAt m9_takeOrder 42 [(.goto 4, 46, 0, 0)] = true := by decide +kernel
theorem k9_takeOrder_45 : gAt m9_takeOrder 45 [(.iconst (-1), 0, 0, 0)] = true := by decide +kernel
theorem k9_takeOrder_46 : gAt m9_takeOrder 46 [(.istore_n 1, 0, 0, 0), (.aload_n 0, 0, 0, 0), (.iload_n 1, 0, 0, 0), (.iconst (-1), 0, 0, 0), (.if_icmp .ne 7, 57, 0, 0), (.iconst 1, 0, 0, 0), (.goto 4, 58, 0, 0)] = true := by decide +kernel
theorem k9_takeOrder_57 : gAt m9_takeOrder 57 [(.iconst 0, 0, 0, 0)] = true := by decide +kernel
theorem k9_takeOrder_58 : gAt m9_takeOrder 58 [(.iconst 4, 0, 0, 0)] = true := by decide +kernel
theorem k9_takeOrder_62 : gAt m9_takeOrder 62 [(.aload_n 0, 0, 0, 0)] = true := by decide +kernel
theorem k9_takeOrder_66 : gAt m9_takeOrder 66 [(.iconst 0, 0, 0, 0), (.iload_n 1, 0, 0, 0)] = true := by decide +kernel
theorem k9_takeOrder_71 : gAt m9_takeOrder 71 [(.ireturn, 0, 0, 0)] = true := by decide +kernel
abbrev m9_takeRule : gM := (9, yX9_takeRule, cX9_takeRule, 2, (some .int), [], none)
theorem k9_takeRule_0 : gAt m9_takeRule 0 [(.aload_n 0, 0, 0, 0)] = true := by decide +kernel
theorem k9_takeRule_4 : gAt m9_takeRule 4 [(.ifCond .ne 5, 9, 0, 0), (.iconst 0, 0, 0, 0), (.ireturn, 0, 0, 0)] = true := by decide +kernel
theorem k9_takeRule_9 : gAt m9_takeRule 9 [(.aload_n 0, 0, 0, 0), (.aload_n 0, 0, 0, 0), (.getfield 117, 9, 31, 0)] = true := by decide +kernel
theorem k9_takeRule_17 : gAt m9_takeRule 17 [(.ifCond .eq 7, 24, 0, 0), (.iconst 0, 0, 0, 0), (.goto 19, 40, 0, 0)] = true := by decide +kernel
theorem k9_takeRule_24 : gAt m9_takeRule 24 [(.aload_n 0, 0, 0, 0), (.aload_n 0, 0, 0, 0), (.getfield 122, 9, 32, 0)] = true := by decide +kernel
theorem k9_takeRule_32 : gAt m9_takeRule 32 [(.ifCond .eq 7, 39, 0, 0), (.iconst 1, 0, 0, 0), (.goto 4, 40, 0, 0)] = true := by decide +kernel
theorem k9_takeRule_39 : gAt m9_takeRule 39 [(.iconst (-1), 0, 0, 0)] = true := by decide +kernel
theorem k9_takeRule_40 : gAt m9_takeRule 40 [(.istore_n 1, 0, 0, 0), (.aload_n 0, 0, 0, 0), (.aload_n 0, 0, 0, 0), (.getfield 267, 9, 10, 0), (.iconst 1, 0, 0, 0), (.if_icmp .eq 7, 54, 0, 0), (.iconst 1, 0, 0, 0), (.goto 4, 55, 0, 0)] = true := by decide +kernel
theorem k9_takeRule_54 : gAt m9_takeRule 54 [(.iconst 0, 0, 0, 0)] = true := by decide +kernel
theorem k9_takeRule_55 : gAt m9_takeRule 55 [(.iconst 1, 0, 0, 0)] = true := by decide +kernel
theorem k9_takeRule_59 : gAt m9_takeRule 59 [(.aload_n 0, 0, 0, 0), (.iload_n 1, 0, 0, 0), (.iconst (-1), 0, 0, 0), (.if_icmp .ne 7, 69, 0, 0), (.iconst 1, 0, 0, 0), (.goto 4, 70, 0, 0)] = true := by decide +kernel
theorem k9_takeRule_69 : gAt m9_takeRule 69 [(.iconst 0, 0, 0, 0)] = true := by decide +kernel
theorem k9_takeRule_70 : gAt m9_takeRule 70 [(.iconst 4, 0, 0, 0)] = true := by decide +kernel
theorem k9_takeRule_74 : gAt m9_takeRule 74 [(.aload_n 0, 0, 0, 0)] = true := by decide +kernel
theorem k9_takeRule_78 : gAt m9_takeRule 78 [(.iconst 0, 0, 0, 0), (.iload_n 1, 0, 0, 0)] = true := by decide +kernel
theorem k9_takeRule_83 : gAt m9_takeRule 83 [(.ireturn, 0, 0, 0)] = true := by decide +kernel
abbrev m9_readMarket : gM := (9, yX9_readMarket, cX9_readMarket, 5, none, [], none)
theorem k9_readMarket_0 : gAt m9_readMarket 0 [(.aload_n 0, 0, 0, 0), (.aload_n 0, 0, 0, 0), (.getfield 46, 9, 17, 0)] = true := by decide +kernel
theorem k9_readMarket_8 : gAt m9_readMarket 8 [(.ifCond .ne 9, 17, 0, 0), (.aload_n 0, 0, 0, 0), (.iconst 1, 0, 0, 0)] = true := by decide +kernel
theorem k9_readMarket_16 : gAt m9_readMarket 16 [(.return_, 0, 0, 0)] = true := by decide +kernel
theorem k9_readMarket_17 : gAt m9_readMarket 17 [(.aload_n 0, 0, 0, 0)] = true := by decide +kernel
theorem k9_readMarket_21 : gAt m9_readMarket 21 [(.aload_n 0, 0, 0, 0), (.iconst 1, 0, 0, 0), (.bipush 60, 0, 0, 0)] = true := by decide +kernel
theorem k9_readMarket_28 : gAt m9_readMarket 28 [(.istore_n 1, 0, 0, 0), (.aload_n 0, 0, 0, 0), (.iconst 1, 0, 0, 0), (.sipush 999, 0, 0, 0)] = true := by decide +kernel
theorem k9_readMarket_37 : gAt m9_readMarket 37 [(.istore_n 2, 0, 0, 0), (.aload_n 0, 0, 0, 0), (.iconst 0, 0, 0, 0), (.sipush 999, 0, 0, 0)] = true := by decide +kernel
theorem k9_readMarket_46 : gAt m9_readMarket 46 [(.istore_n 3, 0, 0, 0), (.aload_n 0, 0, 0, 0)] = true := by decide +kernel
theorem k9_readMarket_51 : gAt m9_readMarket 51 [(.istore 4, 0, 0, 0), (.aload_n 0, 0, 0, 0)] = true := by decide +kernel
theorem k9_readMarket_57 : gAt m9_readMarket 57 [(.aload_n 0, 0, 0, 0), (.iload_n 1, 0, 0, 0), (.iload_n 2, 0, 0, 0), (.iload_n 3, 0, 0, 0), (.iload 4, 0, 0, 0)] = true := by decide +kernel
theorem k9_readMarket_66 : gAt m9_readMarket 66 [(.return_, 0, 0, 0)] = true := by decide +kernel
abbrev m9_readTrader : gM := (9, yX9_readTrader, cX9_readTrader, 5, none, [], none)
theorem k9_readTrader_0 : gAt m9_readTrader 0 [(.aload_n 0, 0, 0, 0), (.aload_n 0, 0, 0, 0), (.getfield 24, 9, 3, 0), (.iconst 5, 0, 0, 0), (.iaload, 0, 0, 0), (.bipush 8, 0, 0, 0), (.if_icmp .ne 7, 16, 0, 0), (.iconst 1, 0, 0, 0), (.goto 4, 17, 0, 0)] = true := by decide +kernel
theorem k9_readTrader_16 : gAt m9_readTrader 16 [(.iconst 0, 0, 0, 0)] = true := by decide +kernel
theorem k9_readTrader_17 : gAt m9_readTrader 17 [(.iconst 5, 0, 0, 0)] = true := by decide +kernel
theorem k9_readTrader_21 : gAt m9_readTrader 21 [(.aload_n 0, 0, 0, 0)] = true := by decide +kernel
theorem k9_readTrader_25 : gAt m9_readTrader 25 [(.aload_n 0, 0, 0, 0), (.aload_n 0, 0, 0, 0), (.getfield 267, 9, 10, 0), (.iconst 1, 0, 0, 0), (.if_icmp .eq 7, 38, 0, 0), (.iconst 1, 0, 0, 0), (.goto 4, 39, 0, 0)] = true := by decide +kernel
theorem k9_readTrader_38 : gAt m9_readTrader 38 [(.iconst 0, 0, 0, 0)] = true := by decide +kernel
theorem k9_readTrader_39 : gAt m9_readTrader 39 [(.iconst 1, 0, 0, 0)] = true := by decide +kernel
theorem k9_readTrader_43 : gAt m9_readTrader 43 [(.aload_n 0, 0, 0, 0), (.aload_n 0, 0, 0, 0), (.getfield 258, 9, 12, 0), (.iconst 4, 0, 0, 0), (.if_icmp .le 7, 56, 0, 0), (.iconst 1, 0, 0, 0), (.goto 4, 57, 0, 0)] = true := by decide +kernel
theorem k9_readTrader_56 : gAt m9_readTrader 56 [(.iconst 0, 0, 0, 0)] = true := by decide +kernel
theorem k9_readTrader_57 : gAt m9_readTrader 57 [(.iconst 2, 0, 0, 0)] = true := by decide +kernel
theorem k9_readTrader_61 : gAt m9_readTrader 61 [(.aload_n 0, 0, 0, 0), (.aload_n 0, 0, 0, 0)] = true := by decide +kernel
theorem k9_readTrader_66 : gAt m9_readTrader 66 [(.ifCond .eq 15, 81, 0, 0), (.aload_n 0, 0, 0, 0)] = true := by decide +kernel
theorem k9_readTrader_73 : gAt m9_readTrader 73 [(.iconst (-1), 0, 0, 0), (.if_icmp .eq 7, 81, 0, 0), (.iconst 1, 0, 0, 0), (.goto 4, 82, 0, 0)] = true := by decide +kernel
theorem k9_readTrader_81 : gAt m9_readTrader 81 [(.iconst 0, 0, 0, 0)] = true := by decide +kernel
theorem k9_readTrader_82 : gAt m9_readTrader 82 [(.iconst 3, 0, 0, 0)] = true := by decide +kernel
theorem k9_readTrader_86 : gAt m9_readTrader 86 [(.aload_n 0, 0, 0, 0)] = true := by decide +kernel
theorem k9_readTrader_90 : gAt m9_readTrader 90 [(.ifCond .ne 4, 94, 0, 0), (.return_, 0, 0, 0)] = true := by decide +kernel
theorem k9_readTrader_94 : gAt m9_readTrader 94 [(.aload_n 0, 0, 0, 0), (.getfield 261, 9, 13, 0), (.l2i, 0, 0, 0), (.istore_n 1, 0, 0, 0), (.aload_n 0, 0, 0, 0), (.getfield 258, 9, 12, 0), (.istore_n 2, 0, 0, 0), (.aload_n 0, 0, 0, 0)] = true := by decide +kernel
theorem k9_readTrader_109 : gAt m9_readTrader 109 [(.aload_n 0, 0, 0, 0), (.iconst 0, 0, 0, 0), (.ldc_w 342, 0, 6, 0)] = true := by decide +kernel
theorem k9_readTrader_117 : gAt m9_readTrader 117 [(.istore_n 3, 0, 0, 0), (.aload_n 0, 0, 0, 0), (.iconst 0, 0, 0, 0), (.sipush 9999, 0, 0, 0)] = true := by decide +kernel
theorem k9_readTrader_126 : gAt m9_readTrader 126 [(.istore 4, 0, 0, 0), (.aload_n 0, 0, 0, 0)] = true := by decide +kernel
theorem k9_readTrader_132 : gAt m9_readTrader 132 [(.aload_n 0, 0, 0, 0)] = true := by decide +kernel
theorem k9_readTrader_136 : gAt m9_readTrader 136 [(.ifCond .eq 12, 148, 0, 0), (.aload_n 0, 0, 0, 0), (.iload_n 1, 0, 0, 0), (.iload_n 2, 0, 0, 0), (.iload_n 3, 0, 0, 0), (.iload 4, 0, 0, 0)] = true := by decide +kernel
theorem k9_readTrader_148 : gAt m9_readTrader 148 [(.return_, 0, 0, 0)] = true := by decide +kernel
abbrev m9_readOrder : gM := (9, yX9_readOrder, cX9_readOrder, 7, none, [], none)
theorem k9_readOrder_0 : gAt m9_readOrder 0 [(.aload_n 0, 0, 0, 0), (.aload_n 0, 0, 0, 0), (.getfield 24, 9, 3, 0), (.bipush 6, 0, 0, 0), (.iaload, 0, 0, 0), (.bipush 20, 0, 0, 0), (.if_icmp .ne 7, 17, 0, 0), (.iconst 1, 0, 0, 0), (.goto 4, 18, 0, 0)] = true := by decide +kernel
theorem k9_readOrder_17 : gAt m9_readOrder 17 [(.iconst 0, 0, 0, 0)] = true := by decide +kernel
theorem k9_readOrder_18 : gAt m9_readOrder 18 [(.iconst 5, 0, 0, 0)] = true := by decide +kernel
theorem k9_readOrder_22 : gAt m9_readOrder 22 [(.aload_n 0, 0, 0, 0)] = true := by decide +kernel
theorem k9_readOrder_26 : gAt m9_readOrder 26 [(.aload_n 0, 0, 0, 0), (.iconst (-1), 0, 0, 0)] = true := by decide +kernel
theorem k9_readOrder_31 : gAt m9_readOrder 31 [(.istore_n 2, 0, 0, 0), (.aload_n 0, 0, 0, 0), (.iconst 1, 0, 0, 0), (.sipush 999, 0, 0, 0)] = true := by decide +kernel
theorem k9_readOrder_40 : gAt m9_readOrder 40 [(.istore_n 3, 0, 0, 0), (.aload_n 0, 0, 0, 0), (.iconst 1, 0, 0, 0), (.bipush 99, 0, 0, 0)] = true := by decide +kernel
theorem k9_readOrder_48 : gAt m9_readOrder 48 [(.istore 4, 0, 0, 0), (.aload_n 0, 0, 0, 0), (.aload_n 0, 0, 0, 0)] = true := by decide +kernel
theorem k9_readOrder_55 : gAt m9_readOrder 55 [(.ifCond .eq 19, 74, 0, 0), (.aload_n 0, 0, 0, 0), (.iload_n 2, 0, 0, 0), (.iload_n 1, 0, 0, 0), (.iload_n 3, 0, 0, 0), (.iload 4, 0, 0, 0)] = true := by decide +kernel
theorem k9_readOrder_67 : gAt m9_readOrder 67 [(.ifCond .eq 7, 74, 0, 0), (.iconst 1, 0, 0, 0), (.goto 4, 75, 0, 0)] = true := by decide +kernel
theorem k9_readOrder_74 : gAt m9_readOrder 74 [(.iconst 0, 0, 0, 0)] = true := by decide +kernel
theorem k9_readOrder_75 : gAt m9_readOrder 75 [(.bipush 6, 0, 0, 0)] = true := by decide +kernel
theorem k9_readOrder_80 : gAt m9_readOrder 80 [(.aload_n 0, 0, 0, 0)] = true := by decide +kernel
theorem k9_readOrder_84 : gAt m9_readOrder 84 [(.aload_n 0, 0, 0, 0), (.iconst 0, 0, 0, 0), (.sipush 999, 0, 0, 0)] = true := by decide +kernel
theorem k9_readOrder_92 : gAt m9_readOrder 92 [(.istore 5, 0, 0, 0), (.aload_n 0, 0, 0, 0)] = true := by decide +kernel
theorem k9_readOrder_98 : gAt m9_readOrder 98 [(.aload_n 0, 0, 0, 0)] = true := by decide +kernel
theorem k9_readOrder_102 : gAt m9_readOrder 102 [(.ifCond .eq 16, 118, 0, 0), (.aload_n 0, 0, 0, 0), (.iload_n 2, 0, 0, 0), (.iload_n 1, 0, 0, 0), (.iload_n 3, 0, 0, 0), (.iload 4, 0, 0, 0), (.iload 5, 0, 0, 0)] = true := by decide +kernel
theorem k9_readOrder_116 : gAt m9_readOrder 116 [(.istore 6, 0, 0, 0)] = true := by decide +kernel
theorem k9_readOrder_118 : gAt m9_readOrder 118 [(.return_, 0, 0, 0)] = true := by decide +kernel
abbrev m9_readWithdraw : gM := (9, yX9_readWithdraw, cX9_readWithdraw, 2, none, [], none)
theorem k9_readWithdraw_0 : gAt m9_readWithdraw 0 [(.aload_n 0, 0, 0, 0)] = true := by decide +kernel
theorem k9_readWithdraw_4 : gAt m9_readWithdraw 4 [(.aload_n 0, 0, 0, 0)] = true := by decide +kernel
theorem k9_readWithdraw_8 : gAt m9_readWithdraw 8 [(.istore_n 1, 0, 0, 0), (.aload_n 0, 0, 0, 0)] = true := by decide +kernel
theorem k9_readWithdraw_13 : gAt m9_readWithdraw 13 [(.aload_n 0, 0, 0, 0)] = true := by decide +kernel
theorem k9_readWithdraw_17 : gAt m9_readWithdraw 17 [(.ifCond .eq 8, 25, 0, 0), (.aload_n 0, 0, 0, 0), (.iload_n 1, 0, 0, 0)] = true := by decide +kernel
theorem k9_readWithdraw_25 : gAt m9_readWithdraw 25 [(.return_, 0, 0, 0)] = true := by decide +kernel
abbrev m9_readAmend : gM := (9, yX9_readAmend, cX9_readAmend, 3, none, [], none)
theorem k9_readAmend_0 : gAt m9_readAmend 0 [(.aload_n 0, 0, 0, 0)] = true := by decide +kernel
theorem k9_readAmend_4 : gAt m9_readAmend 4 [(.aload_n 0, 0, 0, 0)] = true := by decide +kernel
theorem k9_readAmend_8 : gAt m9_readAmend 8 [(.istore_n 1, 0, 0, 0), (.aload_n 0, 0, 0, 0), (.iconst 1, 0, 0, 0), (.bipush 99, 0, 0, 0)] = true := by decide +kernel
theorem k9_readAmend_16 : gAt m9_readAmend 16 [(.istore_n 2, 0, 0, 0), (.aload_n 0, 0, 0, 0), (.aload_n 0, 0, 0, 0)] = true := by decide +kernel
theorem k9_readAmend_22 : gAt m9_readAmend 22 [(.ifCond .eq 17, 39, 0, 0), (.iload_n 2, 0, 0, 0), (.aload_n 0, 0, 0, 0), (.iload_n 1, 0, 0, 0), (.iconst 4, 0, 0, 0)] = true := by decide +kernel
theorem k9_readAmend_32 : gAt m9_readAmend 32 [(.if_icmp .lt 7, 39, 0, 0), (.iconst 1, 0, 0, 0), (.goto 4, 40, 0, 0)] = true := by decide +kernel
theorem k9_readAmend_39 : gAt m9_readAmend 39 [(.iconst 0, 0, 0, 0)] = true := by decide +kernel
theorem k9_readAmend_40 : gAt m9_readAmend 40 [(.bipush 6, 0, 0, 0)] = true := by decide +kernel
theorem k9_readAmend_45 : gAt m9_readAmend 45 [(.aload_n 0, 0, 0, 0)] = true := by decide +kernel
theorem k9_readAmend_49 : gAt m9_readAmend 49 [(.aload_n 0, 0, 0, 0)] = true := by decide +kernel
theorem k9_readAmend_53 : gAt m9_readAmend 53 [(.aload_n 0, 0, 0, 0)] = true := by decide +kernel
theorem k9_readAmend_57 : gAt m9_readAmend 57 [(.ifCond .eq 10, 67, 0, 0), (.aload_n 0, 0, 0, 0), (.iload_n 1, 0, 0, 0), (.iconst 4, 0, 0, 0), (.iload_n 2, 0, 0, 0)] = true := by decide +kernel
theorem k9_readAmend_67 : gAt m9_readAmend 67 [(.return_, 0, 0, 0)] = true := by decide +kernel
abbrev m9_readExtend : gM := (9, yX9_readExtend, cX9_readExtend, 3, none, [], none)
theorem k9_readExtend_0 : gAt m9_readExtend 0 [(.aload_n 0, 0, 0, 0)] = true := by decide +kernel
theorem k9_readExtend_4 : gAt m9_readExtend 4 [(.aload_n 0, 0, 0, 0)] = true := by decide +kernel
theorem k9_readExtend_8 : gAt m9_readExtend 8 [(.istore_n 1, 0, 0, 0), (.aload_n 0, 0, 0, 0), (.iconst 0, 0, 0, 0), (.sipush 999, 0, 0, 0)] = true := by decide +kernel
theorem k9_readExtend_17 : gAt m9_readExtend 17 [(.istore_n 2, 0, 0, 0), (.aload_n 0, 0, 0, 0)] = true := by decide +kernel
theorem k9_readExtend_22 : gAt m9_readExtend 22 [(.aload_n 0, 0, 0, 0)] = true := by decide +kernel
theorem k9_readExtend_26 : gAt m9_readExtend 26 [(.ifCond .eq 17, 43, 0, 0), (.aload_n 0, 0, 0, 0), (.iload_n 1, 0, 0, 0), (.iconst 5, 0, 0, 0), (.aload_n 0, 0, 0, 0), (.getfield 24, 9, 3, 0), (.iconst 4, 0, 0, 0), (.iaload, 0, 0, 0), (.iload_n 2, 0, 0, 0), (.iadd, 0, 0, 0)] = true := by decide +kernel
theorem k9_readExtend_43 : gAt m9_readExtend 43 [(.return_, 0, 0, 0)] = true := by decide +kernel
abbrev m9_readClear : gM := (9, yX9_readClear, cX9_readClear, 3, none, [], none)
theorem k9_readClear_0 : gAt m9_readClear 0 [(.aload_n 0, 0, 0, 0)] = true := by decide +kernel
theorem k9_readClear_4 : gAt m9_readClear 4 [(.aload_n 0, 0, 0, 0), (.iconst (-1), 0, 0, 0)] = true := by decide +kernel
theorem k9_readClear_9 : gAt m9_readClear 9 [(.istore_n 1, 0, 0, 0), (.aload_n 0, 0, 0, 0)] = true := by decide +kernel
theorem k9_readClear_14 : gAt m9_readClear 14 [(.aload_n 0, 0, 0, 0), (.getfield 24, 9, 3, 0), (.bipush 6, 0, 0, 0), (.iaload, 0, 0, 0), (.iconst 1, 0, 0, 0), (.isub, 0, 0, 0), (.istore_n 2, 0, 0, 0)] = true := by decide +kernel
theorem k9_readClear_24 : gAt m9_readClear 24 [(.iload_n 2, 0, 0, 0), (.ifCond .lt 31, 56, 0, 0), (.aload_n 0, 0, 0, 0)] = true := by decide +kernel
theorem k9_readClear_32 : gAt m9_readClear 32 [(.ifCond .eq 24, 56, 0, 0), (.aload_n 0, 0, 0, 0), (.iload_n 2, 0, 0, 0), (.iconst 1, 0, 0, 0)] = true := by decide +kernel
theorem k9_readClear_41 : gAt m9_readClear 41 [(.iload_n 1, 0, 0, 0), (.if_icmp .ne 8, 50, 0, 0), (.aload_n 0, 0, 0, 0), (.iload_n 2, 0, 0, 0)] = true := by decide +kernel
theorem k9_readClear_50 : gAt m9_readClear 50 [(.iinc 2 (-1), 0, 0, 0), (.goto (-29), 24, 0, 0)] = true := by decide +kernel
theorem k9_readClear_56 : gAt m9_readClear 56 [(.return_, 0, 0, 0)] = true := by decide +kernel
abbrev m9_readGive : gM := (9, yX9_readGive, cX9_readGive, 4, none, [], none)
theorem k9_readGive_0 : gAt m9_readGive 0 [(.aload_n 0, 0, 0, 0)] = true := by decide +kernel
theorem k9_readGive_4 : gAt m9_readGive 4 [(.aload_n 0, 0, 0, 0), (.iconst (-1), 0, 0, 0)] = true := by decide +kernel
theorem k9_readGive_9 : gAt m9_readGive 9 [(.istore_n 1, 0, 0, 0), (.aload_n 0, 0, 0, 0), (.iload_n 1, 0, 0, 0)] = true := by decide +kernel
theorem k9_readGive_15 : gAt m9_readGive 15 [(.istore_n 2, 0, 0, 0), (.aload_n 0, 0, 0, 0), (.iconst 1, 0, 0, 0), (.sipush 9999, 0, 0, 0)] = true := by decide +kernel
theorem k9_readGive_24 : gAt m9_readGive 24 [(.istore_n 3, 0, 0, 0), (.aload_n 0, 0, 0, 0), (.aload_n 0, 0, 0, 0)] = true := by decide +kernel
theorem k9_readGive_30 : gAt m9_readGive 30 [(.ifCond .eq 17, 47, 0, 0), (.iload_n 3, 0, 0, 0), (.aload_n 0, 0, 0, 0), (.iload_n 1, 0, 0, 0), (.iconst 1, 0, 0, 0)] = true := by decide +kernel
theorem k9_readGive_40 : gAt m9_readGive 40 [(.if_icmp .le 7, 47, 0, 0), (.iconst 1, 0, 0, 0), (.goto 4, 48, 0, 0)] = true := by decide +kernel
theorem k9_readGive_47 : gAt m9_readGive 47 [(.iconst 0, 0, 0, 0)] = true := by decide +kernel
theorem k9_readGive_48 : gAt m9_readGive 48 [(.bipush 6, 0, 0, 0)] = true := by decide +kernel
theorem k9_readGive_53 : gAt m9_readGive 53 [(.aload_n 0, 0, 0, 0)] = true := by decide +kernel
theorem k9_readGive_57 : gAt m9_readGive 57 [(.aload_n 0, 0, 0, 0)] = true := by decide +kernel
theorem k9_readGive_61 : gAt m9_readGive 61 [(.aload_n 0, 0, 0, 0)] = true := by decide +kernel
theorem k9_readGive_65 : gAt m9_readGive 65 [(.ifCond .eq 18, 83, 0, 0), (.aload_n 0, 0, 0, 0), (.iload_n 1, 0, 0, 0), (.iconst 3, 0, 0, 0), (.iload_n 3, 0, 0, 0), (.ineg, 0, 0, 0)] = true := by decide +kernel
theorem k9_readGive_76 : gAt m9_readGive 76 [(.aload_n 0, 0, 0, 0), (.iload_n 2, 0, 0, 0), (.iconst 3, 0, 0, 0), (.iload_n 3, 0, 0, 0)] = true := by decide +kernel
theorem k9_readGive_83 : gAt m9_readGive 83 [(.return_, 0, 0, 0)] = true := by decide +kernel
abbrev m9_readSetting : gM := (9, yX9_readSetting, cX9_readSetting, 5, none, [], none)
theorem k9_readSetting_0 : gAt m9_readSetting 0 [(.aload_n 0, 0, 0, 0)] = true := by decide +kernel
theorem k9_readSetting_4 : gAt m9_readSetting 4 [(.aload_n 0, 0, 0, 0), (.iload_n 2, 0, 0, 0), (.iload_n 3, 0, 0, 0)] = true := by decide +kernel
theorem k9_readSetting_10 : gAt m9_readSetting 10 [(.istore 4, 0, 0, 0), (.aload_n 0, 0, 0, 0)] = true := by decide +kernel
theorem k9_readSetting_16 : gAt m9_readSetting 16 [(.aload_n 0, 0, 0, 0)] = true := by decide +kernel
theorem k9_readSetting_20 : gAt m9_readSetting 20 [(.ifCond .eq 11, 31, 0, 0), (.aload_n 0, 0, 0, 0), (.getfield 24, 9, 3, 0), (.iload_n 1, 0, 0, 0), (.iload 4, 0, 0, 0), (.iastore, 0, 0, 0)] = true := by decide +kernel
theorem k9_readSetting_31 : gAt m9_readSetting 31 [(.return_, 0, 0, 0)] = true := by decide +kernel
abbrev m9_readRule : gM := (9, yX9_readRule, cX9_readRule, 2, none, [], none)
theorem k9_readRule_0 : gAt m9_readRule 0 [(.aload_n 0, 0, 0, 0)] = true := by decide +kernel
theorem k9_readRule_4 : gAt m9_readRule 4 [(.aload_n 0, 0, 0, 0)] = true := by decide +kernel
theorem k9_readRule_8 : gAt m9_readRule 8 [(.istore_n 1, 0, 0, 0), (.aload_n 0, 0, 0, 0)] = true := by decide +kernel
theorem k9_readRule_13 : gAt m9_readRule 13 [(.aload_n 0, 0, 0, 0)] = true := by decide +kernel
theorem k9_readRule_17 : gAt m9_readRule 17 [(.ifCond .eq 10, 27, 0, 0), (.aload_n 0, 0, 0, 0), (.getfield 24, 9, 3, 0), (.iconst 3, 0, 0, 0), (.iload_n 1, 0, 0, 0), (.iastore, 0, 0, 0)] = true := by decide +kernel
theorem k9_readRule_27 : gAt m9_readRule 27 [(.return_, 0, 0, 0)] = true := by decide +kernel
abbrev m9_readPass : gM := (9, yX9_readPass, cX9_readPass, 2, none, [], none)
theorem k9_readPass_0 : gAt m9_readPass 0 [(.aload_n 0, 0, 0, 0)] = true := by decide +kernel
theorem k9_readPass_4 : gAt m9_readPass 4 [(.aload_n 0, 0, 0, 0), (.iconst 0, 0, 0, 0), (.sipush 300, 0, 0, 0)] = true := by decide +kernel
theorem k9_readPass_12 : gAt m9_readPass 12 [(.istore_n 1, 0, 0, 0), (.aload_n 0, 0, 0, 0)] = true := by decide +kernel
theorem k9_readPass_17 : gAt m9_readPass 17 [(.aload_n 0, 0, 0, 0)] = true := by decide +kernel
theorem k9_readPass_21 : gAt m9_readPass 21 [(.ifCond .eq 8, 29, 0, 0), (.aload_n 0, 0, 0, 0), (.iload_n 1, 0, 0, 0)] = true := by decide +kernel
theorem k9_readPass_29 : gAt m9_readPass 29 [(.return_, 0, 0, 0)] = true := by decide +kernel
abbrev m9_readCry : gM := (9, yX9_readCry, cX9_readCry, 1, none, [], none)
theorem k9_readCry_0 : gAt m9_readCry 0 [(.aload_n 0, 0, 0, 0)] = true := by decide +kernel
theorem k9_readCry_4 : gAt m9_readCry 4 [(.aload_n 0, 0, 0, 0)] = true := by decide +kernel
theorem k9_readCry_8 : gAt m9_readCry 8 [(.aload_n 0, 0, 0, 0)] = true := by decide +kernel
theorem k9_readCry_12 : gAt m9_readCry 12 [(.ifCond .eq 7, 19, 0, 0), (.aload_n 0, 0, 0, 0)] = true := by decide +kernel
theorem k9_readCry_19 : gAt m9_readCry 19 [(.return_, 0, 0, 0)] = true := by decide +kernel
abbrev m9_readStatement : gM := (9, yX9_readStatement, cX9_readStatement, 1, none, [], none)
theorem k9_readStatement_0 : gAt m9_readStatement 0 [(.aload_n 0, 0, 0, 0), (.aload_n 0, 0, 0, 0), (.getfield 52, 9, 18, 0)] = true := by decide +kernel
theorem k9_readStatement_8 : gAt m9_readStatement 8 [(.ifCond .eq 10, 18, 0, 0), (.aload_n 0, 0, 0, 0)] = true := by decide +kernel
theorem k9_readStatement_15 : gAt m9_readStatement 15 [(.goto 235, 250, 0, 0)] = true := by decide +kernel
theorem k9_readStatement_18 : gAt m9_readStatement 18 [(.aload_n 0, 0, 0, 0), (.aload_n 0, 0, 0, 0), (.getfield 57, 9, 19, 0)] = true := by decide +kernel
theorem k9_readStatement_26 : gAt m9_readStatement 26 [(.ifCond .eq 11, 37, 0, 0), (.aload_n 0, 0, 0, 0), (.iconst 0, 0, 0, 0)] = true := by decide +kernel
theorem k9_readStatement_34 : gAt m9_readStatement 34 [(.goto 216, 250, 0, 0)] = true := by decide +kernel
theorem k9_readStatement_37 : gAt m9_readStatement 37 [(.aload_n 0, 0, 0, 0), (.aload_n 0, 0, 0, 0), (.getfield 62, 9, 20, 0)] = true := by decide +kernel
theorem k9_readStatement_45 : gAt m9_readStatement 45 [(.ifCond .eq 11, 56, 0, 0), (.aload_n 0, 0, 0, 0), (.iconst 1, 0, 0, 0)] = true := by decide +kernel
theorem k9_readStatement_53 : gAt m9_readStatement 53 [(.goto 197, 250, 0, 0)] = true := by decide +kernel
theorem k9_readStatement_56 : gAt m9_readStatement 56 [(.aload_n 0, 0, 0, 0), (.aload_n 0, 0, 0, 0), (.getfield 67, 9, 21, 0)] = true := by decide +kernel
theorem k9_readStatement_64 : gAt m9_readStatement 64 [(.ifCond .eq 10, 74, 0, 0), (.aload_n 0, 0, 0, 0)] = true := by decide +kernel
theorem k9_readStatement_71 : gAt m9_readStatement 71 [(.goto 179, 250, 0, 0)] = true := by decide +kernel
theorem k9_readStatement_74 : gAt m9_readStatement 74 [(.aload_n 0, 0, 0, 0), (.aload_n 0, 0, 0, 0), (.getfield 72, 9, 22, 0)] = true := by decide +kernel
theorem k9_readStatement_82 : gAt m9_readStatement 82 [(.ifCond .eq 10, 92, 0, 0), (.aload_n 0, 0, 0, 0)] = true := by decide +kernel
theorem k9_readStatement_89 : gAt m9_readStatement 89 [(.goto 161, 250, 0, 0)] = true := by decide +kernel
theorem k9_readStatement_92 : gAt m9_readStatement 92 [(.aload_n 0, 0, 0, 0), (.aload_n 0, 0, 0, 0), (.getfield 77, 9, 23, 0)] = true := by decide +kernel
theorem k9_readStatement_100 : gAt m9_readStatement 100 [(.ifCond .eq 10, 110, 0, 0), (.aload_n 0, 0, 0, 0)] = true := by decide +kernel
theorem k9_readStatement_107 : gAt m9_readStatement 107 [(.goto 143, 250, 0, 0)] = true := by decide +kernel
theorem k9_readStatement_110 : gAt m9_readStatement 110 [(.aload_n 0, 0, 0, 0), (.aload_n 0, 0, 0, 0), (.getfield 82, 9, 24, 0)] = true := by decide +kernel
theorem k9_readStatement_118 : gAt m9_readStatement 118 [(.ifCond .eq 10, 128, 0, 0), (.aload_n 0, 0, 0, 0)] = true := by decide +kernel
theorem k9_readStatement_125 : gAt m9_readStatement 125 [(.goto 125, 250, 0, 0)] = true := by decide +kernel
theorem k9_readStatement_128 : gAt m9_readStatement 128 [(.aload_n 0, 0, 0, 0), (.aload_n 0, 0, 0, 0), (.getfield 87, 9, 25, 0)] = true := by decide +kernel
theorem k9_readStatement_136 : gAt m9_readStatement 136 [(.ifCond .eq 10, 146, 0, 0), (.aload_n 0, 0, 0, 0)] = true := by decide +kernel
theorem k9_readStatement_143 : gAt m9_readStatement 143 [(.goto 107, 250, 0, 0)] = true := by decide +kernel
theorem k9_readStatement_146 : gAt m9_readStatement 146 [(.aload_n 0, 0, 0, 0), (.aload_n 0, 0, 0, 0), (.getfield 92, 9, 26, 0)] = true := by decide +kernel
theorem k9_readStatement_154 : gAt m9_readStatement 154 [(.ifCond .eq 14, 168, 0, 0), (.aload_n 0, 0, 0, 0), (.iconst 0, 0, 0, 0), (.iconst 1, 0, 0, 0), (.bipush 60, 0, 0, 0)] = true := by decide +kernel
theorem k9_readStatement_165 : gAt m9_readStatement 165 [(.goto 85, 250, 0, 0)] = true := by decide +kernel
theorem k9_readStatement_168 : gAt m9_readStatement 168 [(.aload_n 0, 0, 0, 0), (.aload_n 0, 0, 0, 0), (.getfield 97, 9, 27, 0)] = true := by decide +kernel
theorem k9_readStatement_176 : gAt m9_readStatement 176 [(.ifCond .eq 10, 186, 0, 0), (.aload_n 0, 0, 0, 0)] = true := by decide +kernel
theorem k9_readStatement_183 : gAt m9_readStatement 183 [(.goto 67, 250, 0, 0)] = true := by decide +kernel
theorem k9_readStatement_186 : gAt m9_readStatement 186 [(.aload_n 0, 0, 0, 0), (.aload_n 0, 0, 0, 0), (.getfield 102, 9, 28, 0)] = true := by decide +kernel
theorem k9_readStatement_194 : gAt m9_readStatement 194 [(.ifCond .eq 15, 209, 0, 0), (.aload_n 0, 0, 0, 0), (.iconst 2, 0, 0, 0), (.iconst 0, 0, 0, 0), (.sipush 999, 0, 0, 0)] = true := by decide +kernel
theorem k9_readStatement_206 : gAt m9_readStatement 206 [(.goto 44, 250, 0, 0)] = true := by decide +kernel
theorem k9_readStatement_209 : gAt m9_readStatement 209 [(.aload_n 0, 0, 0, 0), (.aload_n 0, 0, 0, 0), (.getfield 107, 9, 29, 0)] = true := by decide +kernel
theorem k9_readStatement_217 : gAt m9_readStatement 217 [(.ifCond .eq 10, 227, 0, 0), (.aload_n 0, 0, 0, 0)] = true := by decide +kernel
theorem k9_readStatement_224 : gAt m9_readStatement 224 [(.goto 26, 250, 0, 0)] = true := by decide +kernel
theorem k9_readStatement_227 : gAt m9_readStatement 227 [(.aload_n 0, 0, 0, 0), (.aload_n 0, 0, 0, 0), (.getfield 112, 9, 30, 0)] = true := by decide +kernel
theorem k9_readStatement_235 : gAt m9_readStatement 235 [(.ifCond .eq 10, 245, 0, 0), (.aload_n 0, 0, 0, 0)] = true := by decide +kernel
theorem k9_readStatement_242 : gAt m9_readStatement 242 [(.goto 8, 250, 0, 0)] = true := by decide +kernel
theorem k9_readStatement_245 : gAt m9_readStatement 245 [(.aload_n 0, 0, 0, 0), (.iconst 1, 0, 0, 0)] = true := by decide +kernel
theorem k9_readStatement_250 : gAt m9_readStatement 250 [(.return_, 0, 0, 0)] = true := by decide +kernel
abbrev m9_readText : gM := (9, yX9_readText, cX9_readText, 1, none, [], none)
theorem k9_readText_0 : gAt m9_readText 0 [(.aload_n 0, 0, 0, 0)] = true := by decide +kernel
theorem k9_readText_4 : gAt m9_readText 4 [(.aload_n 0, 0, 0, 0)] = true := by decide +kernel
theorem k9_readText_8 : gAt m9_readText 8 [(.aload_n 0, 0, 0, 0)] = true := by decide +kernel
theorem k9_readText_12 : gAt m9_readText 12 [(.ifCond .eq 17, 29, 0, 0), (.aload_n 0, 0, 0, 0), (.getfield 267, 9, 10, 0), (.ifCond .eq 10, 29, 0, 0), (.aload_n 0, 0, 0, 0)] = true := by decide +kernel
theorem k9_readText_26 : gAt m9_readText 26 [(.goto (-18), 8, 0, 0)] = true := by decide +kernel
theorem k9_readText_29 : gAt m9_readText 29 [(.return_, 0, 0, 0)] = true := by decide +kernel
abbrev m9_remember : gM := (9, yX9_remember, cX9_remember, 2, none, [], none)
theorem k9_remember_0 : gAt m9_remember 0 [(.aload_n 0, 0, 0, 0), (.getfield 395, 9, 34, 0), (.bipush 6, 0, 0, 0), (.if_icmp .ne 44, 50, 0, 0), (.iconst 0, 0, 0, 0), (.istore_n 1, 0, 0, 0)] = true := by decide +kernel
theorem k9_remember_11 : gAt m9_remember 11 [(.iload_n 1, 0, 0, 0), (.sipush 870, 0, 0, 0), (.if_icmp .ge 25, 40, 0, 0), (.aload_n 0, 0, 0, 0), (.getfield 125, 9, 33, 0), (.iload_n 1, 0, 0, 0), (.aload_n 0, 0, 0, 0), (.getfield 125, 9, 33, 0), (.iload_n 1, 0, 0, 0), (.sipush 174, 0, 0, 0), (.iadd, 0, 0, 0), (.iaload, 0, 0, 0), (.iastore, 0, 0, 0), (.iinc 1 1, 0, 0, 0), (.goto (-26), 11, 0, 0)] = true := by decide +kernel
theorem k9_remember_40 : gAt m9_remember 40 [(.aload_n 0, 0, 0, 0), (.dup, 0, 0, 0), (.getfield 395, 9, 34, 0), (.iconst 1, 0, 0, 0), (.isub, 0, 0, 0), (.putfield 395, 9, 34, 0)] = true := by decide +kernel
theorem k9_remember_50 : gAt m9_remember 50 [(.iconst 0, 0, 0, 0), (.istore_n 1, 0, 0, 0)] = true := by decide +kernel
theorem k9_remember_52 : gAt m9_remember 52 [(.iload_n 1, 0, 0, 0), (.sipush 174, 0, 0, 0), (.if_icmp .ge 30, 86, 0, 0), (.aload_n 0, 0, 0, 0), (.getfield 125, 9, 33, 0), (.sipush 174, 0, 0, 0), (.aload_n 0, 0, 0, 0), (.getfield 395, 9, 34, 0), (.imul, 0, 0, 0), (.iload_n 1, 0, 0, 0), (.iadd, 0, 0, 0), (.aload_n 0, 0, 0, 0), (.getfield 17, 9, 1, 0), (.iload_n 1, 0, 0, 0), (.iaload, 0, 0, 0), (.iastore, 0, 0, 0), (.iinc 1 1, 0, 0, 0), (.goto (-31), 52, 0, 0)] = true := by decide +kernel
theorem k9_remember_86 : gAt m9_remember 86 [(.aload_n 0, 0, 0, 0), (.dup, 0, 0, 0), (.getfield 395, 9, 34, 0), (.iconst 1, 0, 0, 0), (.iadd, 0, 0, 0), (.putfield 395, 9, 34, 0), (.return_, 0, 0, 0)] = true := by decide +kernel
abbrev m9_append : gM := (9, yX9_append, cX9_append, 6, (some .int), [], none)
theorem k9_append_0 : gAt m9_append 0 [(.aload_n 0, 0, 0, 0), (.aload_n 0, 0, 0, 0), (.getfield 246, 9, 8, 0), (.bipush 20, 0, 0, 0), (.iadd, 0, 0, 0), (.sipush 600, 0, 0, 0), (.if_icmp .gt 7, 18, 0, 0), (.iconst 1, 0, 0, 0), (.goto 4, 19, 0, 0)] = true := by decide +kernel
theorem k9_append_18 : gAt m9_append 18 [(.iconst 0, 0, 0, 0)] = true := by decide +kernel
theorem k9_append_22 : gAt m9_append 22 [(.ifCond .ne 5, 27, 0, 0), (.iconst 0, 0, 0, 0), (.ireturn, 0, 0, 0)] = true := by decide +kernel
theorem k9_append_27 : gAt m9_append 27 [(.aload_n 0, 0, 0, 0), (.iload_n 1, 0, 0, 0)] = true := by decide +kernel
theorem k9_append_32 : gAt m9_append 32 [(.aload_n 0, 0, 0, 0), (.iload_n 2, 0, 0, 0)] = true := by decide +kernel
theorem k9_append_37 : gAt m9_append 37 [(.aload_n 0, 0, 0, 0), (.iload_n 3, 0, 0, 0)] = true := by decide +kernel
theorem k9_append_42 : gAt m9_append 42 [(.aload_n 0, 0, 0, 0), (.iload 4, 0, 0, 0)] = true := by decide +kernel
theorem k9_append_48 : gAt m9_append 48 [(.aload_n 0, 0, 0, 0), (.iload 5, 0, 0, 0)] = true := by decide +kernel
theorem k9_append_54 : gAt m9_append 54 [(.aload_n 0, 0, 0, 0), (.getfield 246, 9, 8, 0), (.ireturn, 0, 0, 0)] = true := by decide +kernel
abbrev m9_store : gM := (9, yX9_store, cX9_store, 3, none, [], none)
theorem k9_store_0 : gAt m9_store 0 [(.bipush 24, 0, 0, 0), (.istore_n 2, 0, 0, 0)] = true := by decide +kernel
theorem k9_store_3 : gAt m9_store 3 [(.iload_n 2, 0, 0, 0), (.ifCond .lt 32, 36, 0, 0), (.aload_n 0, 0, 0, 0), (.getfield 36, 9, 7, 0), (.aload_n 0, 0, 0, 0), (.getfield 246, 9, 8, 0), (.iload_n 1, 0, 0, 0), (.iload_n 2, 0, 0, 0), (.ishr, 0, 0, 0), (.i2b, 0, 0, 0), (.bastore, 0, 0, 0), (.aload_n 0, 0, 0, 0), (.dup, 0, 0, 0), (.getfield 246, 9, 8, 0), (.iconst 1, 0, 0, 0), (.iadd, 0, 0, 0), (.putfield 246, 9, 8, 0), (.iinc 2 (-8), 0, 0, 0), (.goto (-30), 3, 0, 0)] = true := by decide +kernel
theorem k9_store_36 : gAt m9_store 36 [(.return_, 0, 0, 0)] = true := by decide +kernel
abbrev m9_truncate : gM := (9, yX9_truncate, cX9_truncate, 2, (some .int), [], none)
theorem k9_truncate_0 : gAt m9_truncate 0 [(.aload_n 0, 0, 0, 0), (.iload_n 1, 0, 0, 0), (.i2l, 0, 0, 0), (.lconst 0, 0, 0, 0), (.aload_n 0, 0, 0, 0), (.getfield 246, 9, 8, 0), (.i2l, 0, 0, 0)] = true := by decide +kernel
theorem k9_truncate_15 : gAt m9_truncate 15 [(.ifCond .ne 5, 20, 0, 0), (.iconst 0, 0, 0, 0), (.ireturn, 0, 0, 0)] = true := by decide +kernel
theorem k9_truncate_20 : gAt m9_truncate 20 [(.aload_n 0, 0, 0, 0), (.iload_n 1, 0, 0, 0), (.putfield 246, 9, 8, 0), (.iload_n 1, 0, 0, 0), (.ireturn, 0, 0, 0)] = true := by decide +kernel
abbrev m9_load : gM := (9, yX9_load, cX9_load, 2, (some .int), [], none)
theorem k9_load_0 : gAt m9_load 0 [(.aload_n 0, 0, 0, 0), (.iconst 0, 0, 0, 0), (.putfield 3, 9, 0, 0), (.aload_n 0, 0, 0, 0), (.aload_n 0, 0, 0, 0), (.getfield 21, 9, 2, 0), (.putfield 24, 9, 3, 2), (.aload_n 0, 0, 0, 0)] = true := by decide +kernel
theorem k9_load_17 : gAt m9_load 17 [(.aload_n 0, 0, 0, 0), (.aload_n 0, 0, 0, 0), (.getfield 17, 9, 1, 0), (.putfield 24, 9, 3, 2), (.aload_n 0, 0, 0, 0), (.iconst 0, 0, 0, 0), (.putfield 246, 9, 8, 0), (.aload_n 0, 0, 0, 0), (.aload_n 0, 0, 0, 0), (.getfield 284, 9, 15, 0), (.putfield 408, 9, 37, 0), (.aload_n 0, 0, 0, 0), (.aload_n 0, 0, 0, 0)] = true := by decide +kernel
theorem k9_load_43 : gAt m9_load 43 [(.ifCond .eq 7, 50, 0, 0), (.iconst (-1), 0, 0, 0), (.goto 7, 54, 0, 0)] = true := by decide +kernel
theorem k9_load_50 : gAt m9_load 50 [(.aload_n 0, 0, 0, 0), (.getfield 290, 9, 16, 0)] = true := by decide +kernel
theorem k9_load_54 : gAt m9_load 54 [(.putfield 131, 9, 38, 0), (.aload_n 0, 0, 0, 0)] = true := by decide +kernel
theorem k9_load_61 : gAt m9_load 61 [(.ifCond .ne 6, 67, 0, 0), (.bipush (-7), 0, 0, 0), (.ireturn, 0, 0, 0)] = true := by decide +kernel
theorem k9_load_67 : gAt m9_load 67 [(.aload_n 0, 0, 0, 0)] = true := by decide +kernel
theorem k9_load_71 : gAt m9_load 71 [(.iconst 0, 0, 0, 0), (.istore_n 1, 0, 0, 0)] = true := by decide +kernel
theorem k9_load_73 : gAt m9_load 73 [(.iload_n 1, 0, 0, 0), (.sipush 174, 0, 0, 0), (.if_icmp .ge 21, 98, 0, 0), (.aload_n 0, 0, 0, 0), (.getfield 17, 9, 1, 0), (.iload_n 1, 0, 0, 0), (.aload_n 0, 0, 0, 0), (.getfield 21, 9, 2, 0), (.iload_n 1, 0, 0, 0), (.iaload, 0, 0, 0), (.iastore, 0, 0, 0), (.iinc 1 1, 0, 0, 0), (.goto (-22), 73, 0, 0)] = true := by decide +kernel
theorem k9_load_98 : gAt m9_load 98 [(.aload_n 0, 0, 0, 0), (.getfield 17, 9, 1, 0), (.bipush 6, 0, 0, 0), (.iaload, 0, 0, 0), (.ireturn, 0, 0, 0)] = true := by decide +kernel
abbrev m9_errorCode : gM := (9, yX9_errorCode, cX9_errorCode, 1, (some .int), [], none)
theorem k9_errorCode_0 : gAt m9_errorCode 0 [(.aload_n 0, 0, 0, 0), (.iconst 0, 0, 0, 0), (.putfield 3, 9, 0, 0), (.aload_n 0, 0, 0, 0), (.getfield 408, 9, 37, 0), (.ireturn, 0, 0, 0)] = true := by decide +kernel
abbrev m9_errorOffset : gM := (9, yX9_errorOffset, cX9_errorOffset, 1, (some .int), [], none)
theorem k9_errorOffset_0 : gAt m9_errorOffset 0 [(.aload_n 0, 0, 0, 0), (.iconst 0, 0, 0, 0), (.putfield 3, 9, 0, 0), (.aload_n 0, 0, 0, 0), (.getfield 131, 9, 38, 0), (.ireturn, 0, 0, 0)] = true := by decide +kernel
abbrev m9_hasTrader : gM := (9, yX9_hasTrader, cX9_hasTrader, 2, (some .boolean), [], none)
theorem k9_hasTrader_0 : gAt m9_hasTrader 0 [(.iload_n 1, 0, 0, 0), (.i2l, 0, 0, 0), (.lconst 0, 0, 0, 0), (.aload_n 0, 0, 0, 0), (.getfield 17, 9, 1, 0), (.iconst 5, 0, 0, 0), (.iaload, 0, 0, 0), (.iconst 1, 0, 0, 0), (.isub, 0, 0, 0), (.i2l, 0, 0, 0)] = true := by decide +kernel
theorem k9_hasTrader_15 : gAt m9_hasTrader 15 [(.ireturn, 0, 0, 0)] = true := by decide +kernel
abbrev m9_isSide : gM := (9, yX9_isSide, cX9_isSide, 1, (some .boolean), [], none)
theorem k9_isSide_0 : gAt m9_isSide 0 [(.iload_n 0, 0, 0, 0), (.i2l, 0, 0, 0), (.lconst 0, 0, 0, 0), (.lconst 1, 0, 0, 0)] = true := by decide +kernel
theorem k9_isSide_7 : gAt m9_isSide 7 [(.ireturn, 0, 0, 0)] = true := by decide +kernel
abbrev m9_isLimit : gM := (9, yX9_isLimit, cX9_isLimit, 1, (some .boolean), [], none)
theorem k9_isLimit_0 : gAt m9_isLimit 0 [(.iload_n 0, 0, 0, 0), (.i2l, 0, 0, 0), (.lconst 1, 0, 0, 0), (.ldc2_w 414, 0, 3, 0)] = true := by decide +kernel
theorem k9_isLimit_9 : gAt m9_isLimit 9 [(.ireturn, 0, 0, 0)] = true := by decide +kernel
abbrev m9_isQuantity : gM := (9, yX9_isQuantity, cX9_isQuantity, 1, (some .boolean), [], none)
theorem k9_isQuantity_0 : gAt m9_isQuantity 0 [(.iload_n 0, 0, 0, 0), (.i2l, 0, 0, 0), (.lconst 1, 0, 0, 0), (.ldc2_w 416, 0, 4, 0)] = true := by decide +kernel
theorem k9_isQuantity_9 : gAt m9_isQuantity 9 [(.ireturn, 0, 0, 0)] = true := by decide +kernel
abbrev m9_tell : gM := (9, yX9_tell, cX9_tell, 2, (some .int), [], none)
theorem k9_tell_0 : gAt m9_tell 0 [(.aload_n 0, 0, 0, 0), (.iconst 0, 0, 0, 0), (.putfield 3, 9, 0, 0), (.aload_n 0, 0, 0, 0), (.getfield 17, 9, 1, 0), (.iload_n 1, 0, 0, 0), (.iaload, 0, 0, 0), (.ireturn, 0, 0, 0)] = true := by decide +kernel
abbrev m9_minute : gM := (9, yX9_minute, cX9_minute, 1, (some .int), [], none)
theorem k9_minute_0 : gAt m9_minute 0 [(.aload_n 0, 0, 0, 0), (.iconst 4, 0, 0, 0)] = true := by decide +kernel
theorem k9_minute_5 : gAt m9_minute 5 [(.ireturn, 0, 0, 0)] = true := by decide +kernel
abbrev m9_lastPrice : gM := (9, yX9_lastPrice, cX9_lastPrice, 1, (some .int), [], none)
theorem k9_lastPrice_0 : gAt m9_lastPrice 0 [(.aload_n 0, 0, 0, 0), (.iconst 1, 0, 0, 0)] = true := by decide +kernel
theorem k9_lastPrice_5 : gAt m9_lastPrice 5 [(.ireturn, 0, 0, 0)] = true := by decide +kernel
abbrev m9_band : gM := (9, yX9_band, cX9_band, 1, (some .int), [], none)
theorem k9_band_0 : gAt m9_band 0 [(.aload_n 0, 0, 0, 0), (.iconst 2, 0, 0, 0)] = true := by decide +kernel
theorem k9_band_5 : gAt m9_band 5 [(.ireturn, 0, 0, 0)] = true := by decide +kernel
abbrev m9_rule : gM := (9, yX9_rule, cX9_rule, 1, (some .int), [], none)
theorem k9_rule_0 : gAt m9_rule 0 [(.aload_n 0, 0, 0, 0), (.iconst 3, 0, 0, 0)] = true := by decide +kernel
theorem k9_rule_5 : gAt m9_rule 5 [(.ireturn, 0, 0, 0)] = true := by decide +kernel
abbrev m9_minutesToCry : gM := (9, yX9_minutesToCry, cX9_minutesToCry, 1, (some .int), [], none)
theorem k9_minutesToCry_0 : gAt m9_minutesToCry 0 [(.aload_n 0, 0, 0, 0), (.iconst 0, 0, 0, 0), (.putfield 3, 9, 0, 0), (.aload_n 0, 0, 0, 0), (.getfield 17, 9, 1, 0), (.iconst 0, 0, 0, 0), (.iaload, 0, 0, 0), (.aload_n 0, 0, 0, 0), (.getfield 17, 9, 1, 0), (.iconst 4, 0, 0, 0), (.iaload, 0, 0, 0), (.aload_n 0, 0, 0, 0), (.getfield 17, 9, 1, 0), (.iconst 0, 0, 0, 0), (.iaload, 0, 0, 0), (.irem, 0, 0, 0), (.isub, 0, 0, 0), (.ireturn, 0, 0, 0)] = true := by decide +kernel
abbrev m9_traderCount : gM := (9, yX9_traderCount, cX9_traderCount, 1, (some .int), [], none)
theorem k9_traderCount_0 : gAt m9_traderCount 0 [(.aload_n 0, 0, 0, 0), (.iconst 5, 0, 0, 0)] = true := by decide +kernel
theorem k9_traderCount_5 : gAt m9_traderCount 5 [(.ireturn, 0, 0, 0)] = true := by decide +kernel
abbrev m9_coinsOf : gM := (9, yX9_coinsOf, cX9_coinsOf, 2, (some .int), [], none)
theorem k9_coinsOf_0 : gAt m9_coinsOf 0 [(.aload_n 0, 0, 0, 0), (.aload_n 0, 0, 0, 0), (.iload_n 1, 0, 0, 0)] = true := by decide +kernel
theorem k9_coinsOf_9 : gAt m9_coinsOf 9 [(.ifCond .eq 12, 21, 0, 0), (.aload_n 0, 0, 0, 0), (.iload_n 1, 0, 0, 0), (.iconst 2, 0, 0, 0)] = true := by decide +kernel
theorem k9_coinsOf_18 : gAt m9_coinsOf 18 [(.goto 4, 22, 0, 0)] = true := by decide +kernel
theorem k9_coinsOf_21 : gAt m9_coinsOf 21 [(.iconst 0, 0, 0, 0)] = true := by decide +kernel
theorem k9_coinsOf_22 : gAt m9_coinsOf 22 [(.ireturn, 0, 0, 0)] = true := by decide +kernel
abbrev m9_goodsOf : gM := (9, yX9_goodsOf, cX9_goodsOf, 2, (some .int), [], none)
theorem k9_goodsOf_0 : gAt m9_goodsOf 0 [(.aload_n 0, 0, 0, 0), (.aload_n 0, 0, 0, 0), (.iload_n 1, 0, 0, 0)] = true := by decide +kernel
theorem k9_goodsOf_9 : gAt m9_goodsOf 9 [(.ifCond .eq 12, 21, 0, 0), (.aload_n 0, 0, 0, 0), (.iload_n 1, 0, 0, 0), (.iconst 3, 0, 0, 0)] = true := by decide +kernel
theorem k9_goodsOf_18 : gAt m9_goodsOf 18 [(.goto 4, 22, 0, 0)] = true := by decide +kernel
theorem k9_goodsOf_21 : gAt m9_goodsOf 21 [(.iconst 0, 0, 0, 0)] = true := by decide +kernel
theorem k9_goodsOf_22 : gAt m9_goodsOf 22 [(.ireturn, 0, 0, 0)] = true := by decide +kernel
abbrev m9_freeCoins : gM := (9, yX9_freeCoins, cX9_freeCoins, 2, (some .int), [], none)
theorem k9_freeCoins_0 : gAt m9_freeCoins 0 [(.aload_n 0, 0, 0, 0), (.aload_n 0, 0, 0, 0), (.iload_n 1, 0, 0, 0)] = true := by decide +kernel
theorem k9_freeCoins_9 : gAt m9_freeCoins 9 [(.ifCond .eq 12, 21, 0, 0), (.aload_n 0, 0, 0, 0), (.iload_n 1, 0, 0, 0), (.iconst 0, 0, 0, 0)] = true := by decide +kernel
theorem k9_freeCoins_18 : gAt m9_freeCoins 18 [(.goto 4, 22, 0, 0)] = true := by decide +kernel
theorem k9_freeCoins_21 : gAt m9_freeCoins 21 [(.iconst 0, 0, 0, 0)] = true := by decide +kernel
theorem k9_freeCoins_22 : gAt m9_freeCoins 22 [(.ireturn, 0, 0, 0)] = true := by decide +kernel
abbrev m9_freeGoods : gM := (9, yX9_freeGoods, cX9_freeGoods, 2, (some .int), [], none)
theorem k9_freeGoods_0 : gAt m9_freeGoods 0 [(.aload_n 0, 0, 0, 0), (.aload_n 0, 0, 0, 0), (.iload_n 1, 0, 0, 0)] = true := by decide +kernel
theorem k9_freeGoods_9 : gAt m9_freeGoods 9 [(.ifCond .eq 12, 21, 0, 0), (.aload_n 0, 0, 0, 0), (.iload_n 1, 0, 0, 0), (.iconst 1, 0, 0, 0)] = true := by decide +kernel
theorem k9_freeGoods_18 : gAt m9_freeGoods 18 [(.goto 4, 22, 0, 0)] = true := by decide +kernel
theorem k9_freeGoods_21 : gAt m9_freeGoods 21 [(.iconst 0, 0, 0, 0)] = true := by decide +kernel
theorem k9_freeGoods_22 : gAt m9_freeGoods 22 [(.ireturn, 0, 0, 0)] = true := by decide +kernel
abbrev m9_orderCount : gM := (9, yX9_orderCount, cX9_orderCount, 1, (some .int), [], none)
theorem k9_orderCount_0 : gAt m9_orderCount 0 [(.aload_n 0, 0, 0, 0), (.bipush 6, 0, 0, 0)] = true := by decide +kernel
theorem k9_orderCount_6 : gAt m9_orderCount 6 [(.ireturn, 0, 0, 0)] = true := by decide +kernel
abbrev m9_orderAt : gM := (9, yX9_orderAt, cX9_orderAt, 2, (some .int), [], none)
theorem k9_orderAt_0 : gAt m9_orderAt 0 [(.aload_n 0, 0, 0, 0), (.iload_n 1, 0, 0, 0), (.i2l, 0, 0, 0), (.lconst 0, 0, 0, 0), (.aload_n 0, 0, 0, 0), (.getfield 17, 9, 1, 0), (.bipush 6, 0, 0, 0), (.iaload, 0, 0, 0), (.iconst 1, 0, 0, 0), (.isub, 0, 0, 0), (.i2l, 0, 0, 0)] = true := by decide +kernel
theorem k9_orderAt_20 : gAt m9_orderAt 20 [(.ifCond .eq 12, 32, 0, 0), (.aload_n 0, 0, 0, 0), (.iload_n 1, 0, 0, 0), (.iconst 0, 0, 0, 0)] = true := by decide +kernel
theorem k9_orderAt_29 : gAt m9_orderAt 29 [(.goto 4, 33, 0, 0)] = true := by decide +kernel
theorem k9_orderAt_32 : gAt m9_orderAt 32 [(.iconst 0, 0, 0, 0)] = true := by decide +kernel
theorem k9_orderAt_33 : gAt m9_orderAt 33 [(.ireturn, 0, 0, 0)] = true := by decide +kernel
abbrev m9_isOrder : gM := (9, yX9_isOrder, cX9_isOrder, 2, (some .boolean), [], none)
theorem k9_isOrder_0 : gAt m9_isOrder 0 [(.aload_n 0, 0, 0, 0), (.aload_n 0, 0, 0, 0), (.iload_n 1, 0, 0, 0)] = true := by decide +kernel
theorem k9_isOrder_6 : gAt m9_isOrder 6 [(.iconst (-1), 0, 0, 0), (.if_icmp .eq 7, 14, 0, 0), (.iconst 1, 0, 0, 0), (.goto 4, 15, 0, 0)] = true := by decide +kernel
theorem k9_isOrder_14 : gAt m9_isOrder 14 [(.iconst 0, 0, 0, 0)] = true := by decide +kernel
theorem k9_isOrder_18 : gAt m9_isOrder 18 [(.ireturn, 0, 0, 0)] = true := by decide +kernel
abbrev m9_tellOrder : gM := (9, yX9_tellOrder, cX9_tellOrder, 3, (some .int), [], none)
theorem k9_tellOrder_0 : gAt m9_tellOrder 0 [(.aload_n 0, 0, 0, 0), (.iload_n 1, 0, 0, 0)] = true := by decide +kernel
theorem k9_tellOrder_5 : gAt m9_tellOrder 5 [(.ifCond .eq 16, 21, 0, 0), (.aload_n 0, 0, 0, 0), (.aload_n 0, 0, 0, 0), (.iload_n 1, 0, 0, 0)] = true := by decide +kernel
theorem k9_tellOrder_14 : gAt m9_tellOrder 14 [(.iload_n 2, 0, 0, 0)] = true := by decide +kernel
theorem k9_tellOrder_18 : gAt m9_tellOrder 18 [(.goto 4, 22, 0, 0)] = true := by decide +kernel
theorem k9_tellOrder_21 : gAt m9_tellOrder 21 [(.iconst 0, 0, 0, 0)] = true := by decide +kernel
theorem k9_tellOrder_22 : gAt m9_tellOrder 22 [(.ireturn, 0, 0, 0)] = true := by decide +kernel
abbrev m9_traderOf : gM := (9, yX9_traderOf, cX9_traderOf, 2, (some .int), [], none)
theorem k9_traderOf_0 : gAt m9_traderOf 0 [(.aload_n 0, 0, 0, 0), (.iload_n 1, 0, 0, 0), (.iconst 1, 0, 0, 0)] = true := by decide +kernel
theorem k9_traderOf_6 : gAt m9_traderOf 6 [(.ireturn, 0, 0, 0)] = true := by decide +kernel
abbrev m9_sideOf : gM := (9, yX9_sideOf, cX9_sideOf, 2, (some .int), [], none)
theorem k9_sideOf_0 : gAt m9_sideOf 0 [(.aload_n 0, 0, 0, 0), (.iload_n 1, 0, 0, 0), (.iconst 2, 0, 0, 0)] = true := by decide +kernel
theorem k9_sideOf_6 : gAt m9_sideOf 6 [(.ireturn, 0, 0, 0)] = true := by decide +kernel
abbrev m9_limitOf : gM := (9, yX9_limitOf, cX9_limitOf, 2, (some .int), [], none)
theorem k9_limitOf_0 : gAt m9_limitOf 0 [(.aload_n 0, 0, 0, 0), (.iload_n 1, 0, 0, 0), (.iconst 3, 0, 0, 0)] = true := by decide +kernel
theorem k9_limitOf_6 : gAt m9_limitOf 6 [(.ireturn, 0, 0, 0)] = true := by decide +kernel
abbrev m9_quantityOf : gM := (9, yX9_quantityOf, cX9_quantityOf, 2, (some .int), [], none)
theorem k9_quantityOf_0 : gAt m9_quantityOf 0 [(.aload_n 0, 0, 0, 0), (.iload_n 1, 0, 0, 0), (.iconst 4, 0, 0, 0)] = true := by decide +kernel
theorem k9_quantityOf_6 : gAt m9_quantityOf 6 [(.ireturn, 0, 0, 0)] = true := by decide +kernel
abbrev m9_minutesLeft : gM := (9, yX9_minutesLeft, cX9_minutesLeft, 2, (some .int), [], none)
theorem k9_minutesLeft_0 : gAt m9_minutesLeft 0 [(.aload_n 0, 0, 0, 0), (.iload_n 1, 0, 0, 0)] = true := by decide +kernel
theorem k9_minutesLeft_5 : gAt m9_minutesLeft 5 [(.ifCond .eq 25, 30, 0, 0), (.aload_n 0, 0, 0, 0), (.aload_n 0, 0, 0, 0), (.iload_n 1, 0, 0, 0)] = true := by decide +kernel
theorem k9_minutesLeft_14 : gAt m9_minutesLeft 14 [(.iconst 5, 0, 0, 0)] = true := by decide +kernel
theorem k9_minutesLeft_18 : gAt m9_minutesLeft 18 [(.aload_n 0, 0, 0, 0), (.getfield 17, 9, 1, 0), (.iconst 4, 0, 0, 0), (.iaload, 0, 0, 0), (.isub, 0, 0, 0), (.iconst 1, 0, 0, 0), (.iadd, 0, 0, 0), (.goto 4, 31, 0, 0)] = true := by decide +kernel
theorem k9_minutesLeft_30 : gAt m9_minutesLeft 30 [(.iconst 0, 0, 0, 0)] = true := by decide +kernel
theorem k9_minutesLeft_31 : gAt m9_minutesLeft 31 [(.ireturn, 0, 0, 0)] = true := by decide +kernel
abbrev m9_rankOf : gM := (9, yX9_rankOf, cX9_rankOf, 6, (some .int), [], none)
theorem k9_rankOf_0 : gAt m9_rankOf 0 [(.aload_n 0, 0, 0, 0), (.iload_n 1, 0, 0, 0)] = true := by decide +kernel
theorem k9_rankOf_5 : gAt m9_rankOf 5 [(.ifCond .ne 5, 10, 0, 0), (.iconst 0, 0, 0, 0), (.ireturn, 0, 0, 0)] = true := by decide +kernel
theorem k9_rankOf_10 : gAt m9_rankOf 10 [(.aload_n 0, 0, 0, 0), (.iload_n 1, 0, 0, 0)] = true := by decide +kernel
theorem k9_rankOf_15 : gAt m9_rankOf 15 [(.istore_n 2, 0, 0, 0), (.aload_n 0, 0, 0, 0), (.iload_n 2, 0, 0, 0), (.iconst 2, 0, 0, 0)] = true := by decide +kernel
theorem k9_rankOf_22 : gAt m9_rankOf 22 [(.istore_n 3, 0, 0, 0), (.iconst 0, 0, 0, 0), (.istore 4, 0, 0, 0), (.iconst 0, 0, 0, 0), (.istore 5, 0, 0, 0)] = true := by decide +kernel
theorem k9_rankOf_29 : gAt m9_rankOf 29 [(.iload 5, 0, 0, 0), (.aload_n 0, 0, 0, 0), (.getfield 17, 9, 1, 0), (.bipush 6, 0, 0, 0), (.iaload, 0, 0, 0), (.if_icmp .ge 41, 79, 0, 0), (.iload 4, 0, 0, 0), (.aload_n 0, 0, 0, 0), (.iload 5, 0, 0, 0), (.iconst 2, 0, 0, 0)] = true := by decide +kernel
theorem k9_rankOf_50 : gAt m9_rankOf 50 [(.iload_n 3, 0, 0, 0), (.if_icmp .ne 18, 69, 0, 0), (.aload_n 0, 0, 0, 0), (.iload 5, 0, 0, 0), (.iload_n 2, 0, 0, 0), (.iload_n 3, 0, 0, 0)] = true := by decide +kernel
theorem k9_rankOf_62 : gAt m9_rankOf 62 [(.ifCond .eq 7, 69, 0, 0), (.iconst 1, 0, 0, 0), (.goto 4, 70, 0, 0)] = true := by decide +kernel
theorem k9_rankOf_69 : gAt m9_rankOf 69 [(.iconst 0, 0, 0, 0)] = true := by decide +kernel
theorem k9_rankOf_70 : gAt m9_rankOf 70 [(.iadd, 0, 0, 0), (.istore 4, 0, 0, 0), (.iinc 5 1, 0, 0, 0), (.goto (-47), 29, 0, 0)] = true := by decide +kernel
theorem k9_rankOf_79 : gAt m9_rankOf 79 [(.iload 4, 0, 0, 0), (.ireturn, 0, 0, 0)] = true := by decide +kernel
abbrev m9_demandAt : gM := (9, yX9_demandAt, cX9_demandAt, 2, (some .int), [], none)
theorem k9_demandAt_0 : gAt m9_demandAt 0 [(.aload_n 0, 0, 0, 0), (.iload_n 1, 0, 0, 0)] = true := by decide +kernel
theorem k9_demandAt_8 : gAt m9_demandAt 8 [(.ifCond .ne 5, 13, 0, 0), (.iconst 0, 0, 0, 0), (.ireturn, 0, 0, 0)] = true := by decide +kernel
theorem k9_demandAt_13 : gAt m9_demandAt 13 [(.aload_n 0, 0, 0, 0)] = true := by decide +kernel
theorem k9_demandAt_17 : gAt m9_demandAt 17 [(.aload_n 0, 0, 0, 0), (.getfield 27, 9, 4, 0), (.iload_n 1, 0, 0, 0), (.iaload, 0, 0, 0), (.ireturn, 0, 0, 0)] = true := by decide +kernel
abbrev m9_supplyAt : gM := (9, yX9_supplyAt, cX9_supplyAt, 2, (some .int), [], none)
theorem k9_supplyAt_0 : gAt m9_supplyAt 0 [(.aload_n 0, 0, 0, 0), (.iload_n 1, 0, 0, 0)] = true := by decide +kernel
theorem k9_supplyAt_8 : gAt m9_supplyAt 8 [(.ifCond .ne 5, 13, 0, 0), (.iconst 0, 0, 0, 0), (.ireturn, 0, 0, 0)] = true := by decide +kernel
theorem k9_supplyAt_13 : gAt m9_supplyAt 13 [(.aload_n 0, 0, 0, 0)] = true := by decide +kernel
theorem k9_supplyAt_17 : gAt m9_supplyAt 17 [(.aload_n 0, 0, 0, 0), (.getfield 30, 9, 5, 0), (.iload_n 1, 0, 0, 0), (.iaload, 0, 0, 0), (.ireturn, 0, 0, 0)] = true := by decide +kernel
abbrev m9_volumeAt : gM := (9, yX9_volumeAt, cX9_volumeAt, 2, (some .int), [], none)
theorem k9_volumeAt_0 : gAt m9_volumeAt 0 [(.aload_n 0, 0, 0, 0), (.iload_n 1, 0, 0, 0)] = true := by decide +kernel
theorem k9_volumeAt_8 : gAt m9_volumeAt 8 [(.ifCond .ne 5, 13, 0, 0), (.iconst 0, 0, 0, 0), (.ireturn, 0, 0, 0)] = true := by decide +kernel
theorem k9_volumeAt_13 : gAt m9_volumeAt 13 [(.aload_n 0, 0, 0, 0)] = true := by decide +kernel
theorem k9_volumeAt_17 : gAt m9_volumeAt 17 [(.aload_n 0, 0, 0, 0), (.iload_n 1, 0, 0, 0)] = true := by decide +kernel
theorem k9_volumeAt_22 : gAt m9_volumeAt 22 [(.ireturn, 0, 0, 0)] = true := by decide +kernel
abbrev m9_excessAt : gM := (9, yX9_excessAt, cX9_excessAt, 2, (some .int), [], none)
theorem k9_excessAt_0 : gAt m9_excessAt 0 [(.aload_n 0, 0, 0, 0), (.iload_n 1, 0, 0, 0)] = true := by decide +kernel
theorem k9_excessAt_8 : gAt m9_excessAt 8 [(.ifCond .ne 5, 13, 0, 0), (.iconst 0, 0, 0, 0), (.ireturn, 0, 0, 0)] = true := by decide +kernel
theorem k9_excessAt_13 : gAt m9_excessAt 13 [(.aload_n 0, 0, 0, 0)] = true := by decide +kernel
theorem k9_excessAt_17 : gAt m9_excessAt 17 [(.aload_n 0, 0, 0, 0), (.getfield 27, 9, 4, 0), (.iload_n 1, 0, 0, 0), (.iaload, 0, 0, 0), (.aload_n 0, 0, 0, 0), (.getfield 30, 9, 5, 0), (.iload_n 1, 0, 0, 0), (.iaload, 0, 0, 0), (.isub, 0, 0, 0), (.ireturn, 0, 0, 0)] = true := by decide +kernel
abbrev m9_bestOf : gM := (9, yX9_bestOf, cX9_bestOf, 5, (some .int), [], none)
theorem k9_bestOf_0 : gAt m9_bestOf 0 [(.iconst (-1), 0, 0, 0), (.istore_n 2, 0, 0, 0), (.iconst 0, 0, 0, 0), (.istore_n 3, 0, 0, 0)] = true := by decide +kernel
theorem k9_bestOf_4 : gAt m9_bestOf 4 [(.iload_n 3, 0, 0, 0), (.aload_n 0, 0, 0, 0), (.getfield 17, 9, 1, 0), (.bipush 6, 0, 0, 0), (.iaload, 0, 0, 0), (.if_icmp .ge 52, 64, 0, 0), (.aload_n 0, 0, 0, 0), (.iload_n 3, 0, 0, 0), (.iconst 2, 0, 0, 0)] = true := by decide +kernel
theorem k9_bestOf_21 : gAt m9_bestOf 21 [(.iload_n 1, 0, 0, 0), (.if_icmp .ne 22, 44, 0, 0), (.iload_n 2, 0, 0, 0), (.iconst (-1), 0, 0, 0), (.if_icmp .eq 13, 40, 0, 0), (.aload_n 0, 0, 0, 0), (.iload_n 3, 0, 0, 0), (.iload_n 2, 0, 0, 0), (.iload_n 1, 0, 0, 0)] = true := by decide +kernel
theorem k9_bestOf_37 : gAt m9_bestOf 37 [(.ifCond .eq 7, 44, 0, 0)] = true := by decide +kernel
theorem k9_bestOf_40 : gAt m9_bestOf 40 [(.iconst 1, 0, 0, 0), (.goto 4, 45, 0, 0)] = true := by decide +kernel
theorem k9_bestOf_44 : gAt m9_bestOf 44 [(.iconst 0, 0, 0, 0)] = true := by decide +kernel
theorem k9_bestOf_45 : gAt m9_bestOf 45 [(.istore 4, 0, 0, 0), (.iload 4, 0, 0, 0), (.ifCond .eq 7, 56, 0, 0), (.iload_n 3, 0, 0, 0), (.goto 4, 57, 0, 0)] = true := by decide +kernel
theorem k9_bestOf_56 : gAt m9_bestOf 56 [(.iload_n 2, 0, 0, 0)] = true := by decide +kernel
theorem k9_bestOf_57 : gAt m9_bestOf 57 [(.istore_n 2, 0, 0, 0), (.iinc 3 1, 0, 0, 0), (.goto (-57), 4, 0, 0)] = true := by decide +kernel
theorem k9_bestOf_64 : gAt m9_bestOf 64 [(.iload_n 2, 0, 0, 0), (.iconst (-1), 0, 0, 0), (.if_icmp .ne 7, 73, 0, 0), (.iconst (-1), 0, 0, 0), (.goto 9, 79, 0, 0)] = true := by decide +kernel
theorem k9_bestOf_73 : gAt m9_bestOf 73 [(.aload_n 0, 0, 0, 0), (.iload_n 2, 0, 0, 0), (.iconst 3, 0, 0, 0)] = true := by decide +kernel
theorem k9_bestOf_79 : gAt m9_bestOf 79 [(.ireturn, 0, 0, 0)] = true := by decide +kernel
abbrev m9_bestBid : gM := (9, yX9_bestBid, cX9_bestBid, 1, (some .int), [], none)
theorem k9_bestBid_0 : gAt m9_bestBid 0 [(.aload_n 0, 0, 0, 0), (.iconst 0, 0, 0, 0), (.putfield 3, 9, 0, 0), (.aload_n 0, 0, 0, 0), (.iconst 0, 0, 0, 0)] = true := by decide +kernel
theorem k9_bestBid_10 : gAt m9_bestBid 10 [(.ireturn, 0, 0, 0)] = true := by decide +kernel
abbrev m9_bestOffer : gM := (9, yX9_bestOffer, cX9_bestOffer, 1, (some .int), [], none)
theorem k9_bestOffer_0 : gAt m9_bestOffer 0 [(.aload_n 0, 0, 0, 0), (.iconst 0, 0, 0, 0), (.putfield 3, 9, 0, 0), (.aload_n 0, 0, 0, 0), (.iconst 1, 0, 0, 0)] = true := by decide +kernel
theorem k9_bestOffer_10 : gAt m9_bestOffer 10 [(.ireturn, 0, 0, 0)] = true := by decide +kernel
abbrev m9_priceToBuy : gM := (9, yX9_priceToBuy, cX9_priceToBuy, 3, (some .int), [], none)
theorem k9_priceToBuy_0 : gAt m9_priceToBuy 0 [(.aload_n 0, 0, 0, 0), (.iload_n 1, 0, 0, 0), (.i2l, 0, 0, 0), (.lconst 1, 0, 0, 0), (.ldc2_w 414, 0, 3, 0)] = true := by decide +kernel
theorem k9_priceToBuy_13 : gAt m9_priceToBuy 13 [(.ifCond .ne 5, 18, 0, 0), (.iconst 0, 0, 0, 0), (.ireturn, 0, 0, 0)] = true := by decide +kernel
theorem k9_priceToBuy_18 : gAt m9_priceToBuy 18 [(.aload_n 0, 0, 0, 0)] = true := by decide +kernel
theorem k9_priceToBuy_22 : gAt m9_priceToBuy 22 [(.iconst 1, 0, 0, 0), (.istore_n 2, 0, 0, 0)] = true := by decide +kernel
theorem k9_priceToBuy_24 : gAt m9_priceToBuy 24 [(.iload_n 2, 0, 0, 0), (.sipush 999, 0, 0, 0), (.if_icmp .gt 19, 47, 0, 0), (.aload_n 0, 0, 0, 0), (.getfield 30, 9, 5, 0), (.iload_n 2, 0, 0, 0), (.iaload, 0, 0, 0), (.iload_n 1, 0, 0, 0), (.if_icmp .ge 9, 47, 0, 0), (.iinc 2 1, 0, 0, 0), (.goto (-20), 24, 0, 0)] = true := by decide +kernel
theorem k9_priceToBuy_47 : gAt m9_priceToBuy 47 [(.iload_n 2, 0, 0, 0), (.sipush 999, 0, 0, 0), (.if_icmp .le 7, 58, 0, 0), (.iconst (-1), 0, 0, 0), (.goto 4, 59, 0, 0)] = true := by decide +kernel
theorem k9_priceToBuy_58 : gAt m9_priceToBuy 58 [(.iload_n 2, 0, 0, 0)] = true := by decide +kernel
theorem k9_priceToBuy_59 : gAt m9_priceToBuy 59 [(.ireturn, 0, 0, 0)] = true := by decide +kernel
abbrev m9_priceToSell : gM := (9, yX9_priceToSell, cX9_priceToSell, 3, (some .int), [], none)
theorem k9_priceToSell_0 : gAt m9_priceToSell 0 [(.aload_n 0, 0, 0, 0), (.iload_n 1, 0, 0, 0), (.i2l, 0, 0, 0), (.lconst 1, 0, 0, 0), (.ldc2_w 414, 0, 3, 0)] = true := by decide +kernel
theorem k9_priceToSell_13 : gAt m9_priceToSell 13 [(.ifCond .ne 5, 18, 0, 0), (.iconst 0, 0, 0, 0), (.ireturn, 0, 0, 0)] = true := by decide +kernel
theorem k9_priceToSell_18 : gAt m9_priceToSell 18 [(.aload_n 0, 0, 0, 0)] = true := by decide +kernel
theorem k9_priceToSell_22 : gAt m9_priceToSell 22 [(.sipush 999, 0, 0, 0), (.istore_n 2, 0, 0, 0)] = true := by decide +kernel
theorem k9_priceToSell_26 : gAt m9_priceToSell 26 [(.iload_n 2, 0, 0, 0), (.ifCond .le 19, 46, 0, 0), (.aload_n 0, 0, 0, 0), (.getfield 27, 9, 4, 0), (.iload_n 2, 0, 0, 0), (.iaload, 0, 0, 0), (.iload_n 1, 0, 0, 0), (.if_icmp .ge 9, 46, 0, 0), (.iinc 2 (-1), 0, 0, 0), (.goto (-17), 26, 0, 0)] = true := by decide +kernel
theorem k9_priceToSell_46 : gAt m9_priceToSell 46 [(.iload_n 2, 0, 0, 0), (.ifCond .ne 7, 54, 0, 0), (.iconst (-1), 0, 0, 0), (.goto 4, 55, 0, 0)] = true := by decide +kernel
theorem k9_priceToSell_54 : gAt m9_priceToSell 54 [(.iload_n 2, 0, 0, 0)] = true := by decide +kernel
theorem k9_priceToSell_55 : gAt m9_priceToSell 55 [(.ireturn, 0, 0, 0)] = true := by decide +kernel
abbrev m9_volumeNow : gM := (9, yX9_volumeNow, cX9_volumeNow, 2, (some .int), [], none)
theorem k9_volumeNow_0 : gAt m9_volumeNow 0 [(.aload_n 0, 0, 0, 0)] = true := by decide +kernel
theorem k9_volumeNow_4 : gAt m9_volumeNow 4 [(.istore_n 1, 0, 0, 0), (.iload_n 1, 0, 0, 0), (.iconst (-1), 0, 0, 0), (.if_icmp .ne 7, 14, 0, 0), (.iconst 0, 0, 0, 0), (.goto 8, 19, 0, 0)] = true := by decide +kernel
theorem k9_volumeNow_14 : gAt m9_volumeNow 14 [(.aload_n 0, 0, 0, 0), (.iload_n 1, 0, 0, 0)] = true := by decide +kernel
theorem k9_volumeNow_19 : gAt m9_volumeNow 19 [(.ireturn, 0, 0, 0)] = true := by decide +kernel
abbrev m9_cryPrice : gM := (9, yX9_cryPrice, cX9_cryPrice, 1, (some .int), [], none)
theorem k9_cryPrice_0 : gAt m9_cryPrice 0 [(.aload_n 0, 0, 0, 0), (.iconst 0, 0, 0, 0), (.putfield 3, 9, 0, 0), (.aload_n 0, 0, 0, 0)] = true := by decide +kernel
theorem k9_cryPrice_9 : gAt m9_cryPrice 9 [(.ireturn, 0, 0, 0)] = true := by decide +kernel
abbrev m9_cryVolume : gM := (9, yX9_cryVolume, cX9_cryVolume, 1, (some .int), [], none)
theorem k9_cryVolume_0 : gAt m9_cryVolume 0 [(.aload_n 0, 0, 0, 0), (.iconst 0, 0, 0, 0), (.putfield 3, 9, 0, 0), (.aload_n 0, 0, 0, 0)] = true := by decide +kernel
theorem k9_cryVolume_9 : gAt m9_cryVolume 9 [(.ireturn, 0, 0, 0)] = true := by decide +kernel
abbrev m9_wouldStop : gM := (9, yX9_wouldStop, cX9_wouldStop, 1, (some .boolean), [], none)
theorem k9_wouldStop_0 : gAt m9_wouldStop 0 [(.aload_n 0, 0, 0, 0), (.iconst 0, 0, 0, 0), (.putfield 3, 9, 0, 0), (.aload_n 0, 0, 0, 0), (.aload_n 0, 0, 0, 0)] = true := by decide +kernel
theorem k9_wouldStop_13 : gAt m9_wouldStop 13 [(.ireturn, 0, 0, 0)] = true := by decide +kernel
abbrev m9_fillOf : gM := (9, yX9_fillOf, cX9_fillOf, 3, (some .int), [], none)
theorem k9_fillOf_0 : gAt m9_fillOf 0 [(.aload_n 0, 0, 0, 0), (.iload_n 1, 0, 0, 0)] = true := by decide +kernel
theorem k9_fillOf_5 : gAt m9_fillOf 5 [(.ifCond .ne 5, 10, 0, 0), (.iconst 0, 0, 0, 0), (.ireturn, 0, 0, 0)] = true := by decide +kernel
theorem k9_fillOf_10 : gAt m9_fillOf 10 [(.aload_n 0, 0, 0, 0)] = true := by decide +kernel
theorem k9_fillOf_14 : gAt m9_fillOf 14 [(.istore_n 2, 0, 0, 0), (.aload_n 0, 0, 0, 0), (.getfield 33, 9, 6, 0), (.aload_n 0, 0, 0, 0), (.iload_n 1, 0, 0, 0)] = true := by decide +kernel
theorem k9_fillOf_24 : gAt m9_fillOf 24 [(.iaload, 0, 0, 0), (.ireturn, 0, 0, 0)] = true := by decide +kernel
abbrev m9_worthOf : gM := (9, yX9_worthOf, cX9_worthOf, 3, (some .int), [], none)
theorem k9_worthOf_0 : gAt m9_worthOf 0 [(.aload_n 0, 0, 0, 0), (.iload_n 1, 0, 0, 0)] = true := by decide +kernel
theorem k9_worthOf_5 : gAt m9_worthOf 5 [(.ifCond .ne 5, 10, 0, 0), (.iconst 0, 0, 0, 0), (.ireturn, 0, 0, 0)] = true := by decide +kernel
theorem k9_worthOf_10 : gAt m9_worthOf 10 [(.aload_n 0, 0, 0, 0)] = true := by decide +kernel
theorem k9_worthOf_14 : gAt m9_worthOf 14 [(.istore_n 2, 0, 0, 0), (.aload_n 0, 0, 0, 0), (.getfield 33, 9, 6, 0), (.aload_n 0, 0, 0, 0), (.iload_n 1, 0, 0, 0)] = true := by decide +kernel
theorem k9_worthOf_24 : gAt m9_worthOf 24 [(.iaload, 0, 0, 0), (.iload_n 2, 0, 0, 0), (.imul, 0, 0, 0), (.ireturn, 0, 0, 0)] = true := by decide +kernel
abbrev m9_partialFills : gM := (9, yX9_partialFills, cX9_partialFills, 4, (some .int), [], none)
theorem k9_partialFills_0 : gAt m9_partialFills 0 [(.aload_n 0, 0, 0, 0), (.iconst 0, 0, 0, 0), (.putfield 3, 9, 0, 0), (.aload_n 0, 0, 0, 0)] = true := by decide +kernel
theorem k9_partialFills_9 : gAt m9_partialFills 9 [(.istore_n 1, 0, 0, 0), (.iconst 0, 0, 0, 0), (.istore_n 2, 0, 0, 0), (.iconst 0, 0, 0, 0), (.istore_n 3, 0, 0, 0)] = true := by decide +kernel
theorem k9_partialFills_14 : gAt m9_partialFills 14 [(.iload_n 3, 0, 0, 0), (.aload_n 0, 0, 0, 0), (.getfield 17, 9, 1, 0), (.bipush 6, 0, 0, 0), (.iaload, 0, 0, 0), (.if_icmp .ge 41, 63, 0, 0), (.iload_n 2, 0, 0, 0), (.aload_n 0, 0, 0, 0), (.getfield 33, 9, 6, 0), (.iload_n 3, 0, 0, 0), (.iaload, 0, 0, 0), (.ifCond .le 22, 54, 0, 0), (.aload_n 0, 0, 0, 0), (.getfield 33, 9, 6, 0), (.iload_n 3, 0, 0, 0), (.iaload, 0, 0, 0), (.aload_n 0, 0, 0, 0), (.iload_n 3, 0, 0, 0), (.iconst 4, 0, 0, 0)] = true := by decide +kernel
theorem k9_partialFills_47 : gAt m9_partialFills 47 [(.if_icmp .ge 7, 54, 0, 0), (.iconst 1, 0, 0, 0), (.goto 4, 55, 0, 0)] = true := by decide +kernel
theorem k9_partialFills_54 : gAt m9_partialFills 54 [(.iconst 0, 0, 0, 0)] = true := by decide +kernel
theorem k9_partialFills_55 : gAt m9_partialFills 55 [(.iadd, 0, 0, 0), (.istore_n 2, 0, 0, 0), (.iinc 3 1, 0, 0, 0), (.goto (-46), 14, 0, 0)] = true := by decide +kernel
theorem k9_partialFills_63 : gAt m9_partialFills 63 [(.iload_n 2, 0, 0, 0), (.ireturn, 0, 0, 0)] = true := by decide +kernel
abbrev m9_lastLimit : gM := (9, yX9_lastLimit, cX9_lastLimit, 6, (some .int), [], none)
theorem k9_lastLimit_0 : gAt m9_lastLimit 0 [(.aload_n 0, 0, 0, 0), (.iload_n 1, 0, 0, 0)] = true := by decide +kernel
theorem k9_lastLimit_8 : gAt m9_lastLimit 8 [(.ifCond .ne 5, 13, 0, 0), (.iconst 0, 0, 0, 0), (.ireturn, 0, 0, 0)] = true := by decide +kernel
theorem k9_lastLimit_13 : gAt m9_lastLimit 13 [(.aload_n 0, 0, 0, 0)] = true := by decide +kernel
theorem k9_lastLimit_17 : gAt m9_lastLimit 17 [(.istore_n 2, 0, 0, 0), (.iconst (-1), 0, 0, 0), (.istore_n 3, 0, 0, 0), (.iconst 0, 0, 0, 0), (.istore 4, 0, 0, 0)] = true := by decide +kernel
theorem k9_lastLimit_23 : gAt m9_lastLimit 23 [(.iload 4, 0, 0, 0), (.aload_n 0, 0, 0, 0), (.getfield 17, 9, 1, 0), (.bipush 6, 0, 0, 0), (.iaload, 0, 0, 0), (.if_icmp .ge 65, 97, 0, 0), (.aload_n 0, 0, 0, 0), (.iload 4, 0, 0, 0), (.iconst 2, 0, 0, 0)] = true := by decide +kernel
theorem k9_lastLimit_42 : gAt m9_lastLimit 42 [(.iload_n 1, 0, 0, 0), (.if_icmp .ne 17, 60, 0, 0), (.aload_n 0, 0, 0, 0), (.getfield 33, 9, 6, 0), (.iload 4, 0, 0, 0), (.iaload, 0, 0, 0), (.ifCond .le 7, 60, 0, 0), (.iconst 1, 0, 0, 0), (.goto 4, 61, 0, 0)] = true := by decide +kernel
theorem k9_lastLimit_60 : gAt m9_lastLimit 60 [(.iconst 0, 0, 0, 0)] = true := by decide +kernel
theorem k9_lastLimit_61 : gAt m9_lastLimit 61 [(.istore 5, 0, 0, 0), (.iload 5, 0, 0, 0), (.ifCond .eq 24, 89, 0, 0), (.iload_n 3, 0, 0, 0), (.iconst (-1), 0, 0, 0), (.if_icmp .eq 14, 84, 0, 0), (.aload_n 0, 0, 0, 0), (.iload_n 3, 0, 0, 0), (.iload 4, 0, 0, 0), (.iload_n 1, 0, 0, 0)] = true := by decide +kernel
theorem k9_lastLimit_81 : gAt m9_lastLimit 81 [(.ifCond .eq 8, 89, 0, 0)] = true := by decide +kernel
theorem k9_lastLimit_84 : gAt m9_lastLimit 84 [(.iload 4, 0, 0, 0), (.goto 4, 90, 0, 0)] = true := by decide +kernel
theorem k9_lastLimit_89 : gAt m9_lastLimit 89 [(.iload_n 3, 0, 0, 0)] = true := by decide +kernel
theorem k9_lastLimit_90 : gAt m9_lastLimit 90 [(.istore_n 3, 0, 0, 0), (.iinc 4 1, 0, 0, 0), (.goto (-71), 23, 0, 0)] = true := by decide +kernel
theorem k9_lastLimit_97 : gAt m9_lastLimit 97 [(.iload_n 3, 0, 0, 0), (.iconst (-1), 0, 0, 0), (.if_icmp .ne 7, 106, 0, 0), (.iconst (-1), 0, 0, 0), (.goto 9, 112, 0, 0)] = true := by decide +kernel
theorem k9_lastLimit_106 : gAt m9_lastLimit 106 [(.aload_n 0, 0, 0, 0), (.iload_n 3, 0, 0, 0), (.iconst 3, 0, 0, 0)] = true := by decide +kernel
theorem k9_lastLimit_112 : gAt m9_lastLimit 112 [(.ireturn, 0, 0, 0)] = true := by decide +kernel
abbrev m9_coinsAfterCry : gM := (9, yX9_coinsAfterCry, cX9_coinsAfterCry, 6, (some .int), [], none)
theorem k9_coinsAfterCry_0 : gAt m9_coinsAfterCry 0 [(.aload_n 0, 0, 0, 0), (.aload_n 0, 0, 0, 0), (.iload_n 1, 0, 0, 0)] = true := by decide +kernel
theorem k9_coinsAfterCry_9 : gAt m9_coinsAfterCry 9 [(.ifCond .ne 5, 14, 0, 0), (.iconst 0, 0, 0, 0), (.ireturn, 0, 0, 0)] = true := by decide +kernel
theorem k9_coinsAfterCry_14 : gAt m9_coinsAfterCry 14 [(.aload_n 0, 0, 0, 0)] = true := by decide +kernel
theorem k9_coinsAfterCry_18 : gAt m9_coinsAfterCry 18 [(.istore_n 2, 0, 0, 0), (.aload_n 0, 0, 0, 0), (.iload_n 1, 0, 0, 0), (.iconst 2, 0, 0, 0)] = true := by decide +kernel
theorem k9_coinsAfterCry_25 : gAt m9_coinsAfterCry 25 [(.istore_n 3, 0, 0, 0), (.iconst 0, 0, 0, 0), (.istore 4, 0, 0, 0)] = true := by decide +kernel
theorem k9_coinsAfterCry_29 : gAt m9_coinsAfterCry 29 [(.iload 4, 0, 0, 0), (.aload_n 0, 0, 0, 0), (.getfield 17, 9, 1, 0), (.bipush 6, 0, 0, 0), (.iaload, 0, 0, 0), (.if_icmp .ge 56, 94, 0, 0), (.aload_n 0, 0, 0, 0), (.iload 4, 0, 0, 0), (.iconst 1, 0, 0, 0)] = true := by decide +kernel
theorem k9_coinsAfterCry_48 : gAt m9_coinsAfterCry 48 [(.iload_n 1, 0, 0, 0), (.if_icmp .ne 15, 64, 0, 0), (.aload_n 0, 0, 0, 0), (.getfield 33, 9, 6, 0), (.iload 4, 0, 0, 0), (.iaload, 0, 0, 0), (.iload_n 2, 0, 0, 0), (.imul, 0, 0, 0), (.goto 4, 65, 0, 0)] = true := by decide +kernel
theorem k9_coinsAfterCry_64 : gAt m9_coinsAfterCry 64 [(.iconst 0, 0, 0, 0)] = true := by decide +kernel
theorem k9_coinsAfterCry_65 : gAt m9_coinsAfterCry 65 [(.istore 5, 0, 0, 0), (.iload_n 3, 0, 0, 0), (.aload_n 0, 0, 0, 0), (.iload 4, 0, 0, 0), (.iconst 2, 0, 0, 0)] = true := by decide +kernel
theorem k9_coinsAfterCry_75 : gAt m9_coinsAfterCry 75 [(.ifCond .ne 9, 84, 0, 0), (.iload 5, 0, 0, 0), (.ineg, 0, 0, 0), (.goto 5, 86, 0, 0)] = true := by decide +kernel
theorem k9_coinsAfterCry_84 : gAt m9_coinsAfterCry 84 [(.iload 5, 0, 0, 0)] = true := by decide +kernel
theorem k9_coinsAfterCry_86 : gAt m9_coinsAfterCry 86 [(.iadd, 0, 0, 0), (.istore_n 3, 0, 0, 0), (.iinc 4 1, 0, 0, 0), (.goto (-62), 29, 0, 0)] = true := by decide +kernel
theorem k9_coinsAfterCry_94 : gAt m9_coinsAfterCry 94 [(.iload_n 3, 0, 0, 0), (.ireturn, 0, 0, 0)] = true := by decide +kernel
abbrev m9_startWithout : gM := (9, yX9_startWithout, cX9_startWithout, 2, none, [], none)
theorem k9_startWithout_0 : gAt m9_startWithout 0 [(.aload_n 0, 0, 0, 0)] = true := by decide +kernel
theorem k9_startWithout_4 : gAt m9_startWithout 4 [(.aload_n 0, 0, 0, 0), (.aload_n 0, 0, 0, 0), (.iload_n 1, 0, 0, 0)] = true := by decide +kernel
theorem k9_startWithout_13 : gAt m9_startWithout 13 [(.return_, 0, 0, 0)] = true := by decide +kernel
abbrev m9_priceWithout : gM := (9, yX9_priceWithout, cX9_priceWithout, 2, (some .int), [], none)
theorem k9_priceWithout_0 : gAt m9_priceWithout 0 [(.aload_n 0, 0, 0, 0), (.iload_n 1, 0, 0, 0)] = true := by decide +kernel
theorem k9_priceWithout_5 : gAt m9_priceWithout 5 [(.ifCond .ne 5, 10, 0, 0), (.iconst 0, 0, 0, 0), (.ireturn, 0, 0, 0)] = true := by decide +kernel
theorem k9_priceWithout_10 : gAt m9_priceWithout 10 [(.aload_n 0, 0, 0, 0), (.iload_n 1, 0, 0, 0)] = true := by decide +kernel
theorem k9_priceWithout_15 : gAt m9_priceWithout 15 [(.aload_n 0, 0, 0, 0), (.aload_n 0, 0, 0, 0)] = true := by decide +kernel
theorem k9_priceWithout_23 : gAt m9_priceWithout 23 [(.ireturn, 0, 0, 0)] = true := by decide +kernel
abbrev m9_volumeWithout : gM := (9, yX9_volumeWithout, cX9_volumeWithout, 2, (some .int), [], none)
theorem k9_volumeWithout_0 : gAt m9_volumeWithout 0 [(.aload_n 0, 0, 0, 0), (.iload_n 1, 0, 0, 0)] = true := by decide +kernel
theorem k9_volumeWithout_5 : gAt m9_volumeWithout 5 [(.ifCond .ne 5, 10, 0, 0), (.iconst 0, 0, 0, 0), (.ireturn, 0, 0, 0)] = true := by decide +kernel
theorem k9_volumeWithout_10 : gAt m9_volumeWithout 10 [(.aload_n 0, 0, 0, 0), (.iload_n 1, 0, 0, 0)] = true := by decide +kernel
theorem k9_volumeWithout_15 : gAt m9_volumeWithout 15 [(.aload_n 0, 0, 0, 0), (.aload_n 0, 0, 0, 0)] = true := by decide +kernel
theorem k9_volumeWithout_23 : gAt m9_volumeWithout 23 [(.ireturn, 0, 0, 0)] = true := by decide +kernel
abbrev m9_isLike : gM := (9, yX9_isLike, cX9_isLike, 4, (some .boolean), [], none)
theorem k9_isLike_0 : gAt m9_isLike 0 [(.iload_n 1, 0, 0, 0)] = true := by decide +kernel
theorem k9_isLike_4 : gAt m9_isLike 4 [(.ifCond .eq 21, 25, 0, 0), (.iload_n 2, 0, 0, 0)] = true := by decide +kernel
theorem k9_isLike_11 : gAt m9_isLike 11 [(.ifCond .eq 14, 25, 0, 0), (.iload_n 3, 0, 0, 0)] = true := by decide +kernel
theorem k9_isLike_18 : gAt m9_isLike 18 [(.ifCond .eq 7, 25, 0, 0), (.iconst 1, 0, 0, 0), (.goto 4, 26, 0, 0)] = true := by decide +kernel
theorem k9_isLike_25 : gAt m9_isLike 25 [(.iconst 0, 0, 0, 0)] = true := by decide +kernel
theorem k9_isLike_26 : gAt m9_isLike 26 [(.ireturn, 0, 0, 0)] = true := by decide +kernel
abbrev m9_startWith : gM := (9, yX9_startWith, cX9_startWith, 5, none, [], none)
theorem k9_startWith_0 : gAt m9_startWith 0 [(.aload_n 0, 0, 0, 0)] = true := by decide +kernel
theorem k9_startWith_4 : gAt m9_startWith 4 [(.aload_n 0, 0, 0, 0), (.iconst 0, 0, 0, 0), (.iload_n 1, 0, 0, 0), (.iload_n 2, 0, 0, 0), (.iload_n 3, 0, 0, 0), (.iconst 0, 0, 0, 0)] = true := by decide +kernel
theorem k9_startWith_13 : gAt m9_startWith 13 [(.istore 4, 0, 0, 0), (.return_, 0, 0, 0)] = true := by decide +kernel
abbrev m9_priceWith : gM := (9, yX9_priceWith, cX9_priceWith, 4, (some .int), [], none)
theorem k9_priceWith_0 : gAt m9_priceWith 0 [(.aload_n 0, 0, 0, 0), (.aload_n 0, 0, 0, 0), (.iload_n 1, 0, 0, 0), (.iload_n 2, 0, 0, 0), (.iload_n 3, 0, 0, 0)] = true := by decide +kernel
theorem k9_priceWith_11 : gAt m9_priceWith 11 [(.ifCond .ne 5, 16, 0, 0), (.iconst 0, 0, 0, 0), (.ireturn, 0, 0, 0)] = true := by decide +kernel
theorem k9_priceWith_16 : gAt m9_priceWith 16 [(.aload_n 0, 0, 0, 0), (.iload_n 1, 0, 0, 0), (.iload_n 2, 0, 0, 0), (.iload_n 3, 0, 0, 0)] = true := by decide +kernel
theorem k9_priceWith_23 : gAt m9_priceWith 23 [(.aload_n 0, 0, 0, 0), (.aload_n 0, 0, 0, 0)] = true := by decide +kernel
theorem k9_priceWith_31 : gAt m9_priceWith 31 [(.ireturn, 0, 0, 0)] = true := by decide +kernel
abbrev m9_fillWith : gM := (9, yX9_fillWith, cX9_fillWith, 5, (some .int), [], none)
theorem k9_fillWith_0 : gAt m9_fillWith 0 [(.aload_n 0, 0, 0, 0), (.aload_n 0, 0, 0, 0), (.iload_n 1, 0, 0, 0), (.iload_n 2, 0, 0, 0), (.iload_n 3, 0, 0, 0)] = true := by decide +kernel
theorem k9_fillWith_11 : gAt m9_fillWith 11 [(.ifCond .ne 5, 16, 0, 0), (.iconst 0, 0, 0, 0), (.ireturn, 0, 0, 0)] = true := by decide +kernel
theorem k9_fillWith_16 : gAt m9_fillWith 16 [(.aload_n 0, 0, 0, 0), (.iload_n 1, 0, 0, 0), (.iload_n 2, 0, 0, 0), (.iload_n 3, 0, 0, 0)] = true := by decide +kernel
theorem k9_fillWith_23 : gAt m9_fillWith 23 [(.aload_n 0, 0, 0, 0)] = true := by decide +kernel
theorem k9_fillWith_27 : gAt m9_fillWith 27 [(.istore 4, 0, 0, 0), (.aload_n 0, 0, 0, 0), (.aload_n 0, 0, 0, 0), (.getfield 33, 9, 6, 0), (.aload_n 0, 0, 0, 0), (.getfield 24, 9, 3, 0), (.bipush 6, 0, 0, 0), (.iaload, 0, 0, 0), (.iconst 1, 0, 0, 0), (.isub, 0, 0, 0), (.iaload, 0, 0, 0)] = true := by decide +kernel
theorem k9_fillWith_47 : gAt m9_fillWith 47 [(.ireturn, 0, 0, 0)] = true := by decide +kernel
abbrev m9_orderRefusal : gM := (9, yX9_orderRefusal, cX9_orderRefusal, 5, (some .int), [], none)
theorem k9_orderRefusal_0 : gAt m9_orderRefusal 0 [(.aload_n 0, 0, 0, 0), (.aload_n 0, 0, 0, 0), (.iload_n 1, 0, 0, 0)] = true := by decide +kernel
theorem k9_orderRefusal_6 : gAt m9_orderRefusal 6 [(.aload_n 0, 0, 0, 0), (.iload_n 2, 0, 0, 0), (.iload_n 3, 0, 0, 0), (.iload 4, 0, 0, 0)] = true := by decide +kernel
theorem k9_orderRefusal_17 : gAt m9_orderRefusal 17 [(.ifCond .eq 15, 32, 0, 0), (.aload_n 0, 0, 0, 0), (.iload_n 1, 0, 0, 0), (.iload_n 2, 0, 0, 0), (.iload_n 3, 0, 0, 0), (.iload 4, 0, 0, 0)] = true := by decide +kernel
theorem k9_orderRefusal_29 : gAt m9_orderRefusal 29 [(.goto 4, 33, 0, 0)] = true := by decide +kernel
theorem k9_orderRefusal_32 : gAt m9_orderRefusal 32 [(.iconst 0, 0, 0, 0)] = true := by decide +kernel
theorem k9_orderRefusal_33 : gAt m9_orderRefusal 33 [(.ireturn, 0, 0, 0)] = true := by decide +kernel
abbrev m9_tradedPieces : gM := (9, yX9_tradedPieces, cX9_tradedPieces, 1, (some .int), [], none)
theorem k9_tradedPieces_0 : gAt m9_tradedPieces 0 [(.aload_n 0, 0, 0, 0), (.bipush 8, 0, 0, 0)] = true := by decide +kernel
theorem k9_tradedPieces_6 : gAt m9_tradedPieces 6 [(.ireturn, 0, 0, 0)] = true := by decide +kernel
abbrev m9_goodCries : gM := (9, yX9_goodCries, cX9_goodCries, 1, (some .int), [], none)
theorem k9_goodCries_0 : gAt m9_goodCries 0 [(.aload_n 0, 0, 0, 0), (.bipush 9, 0, 0, 0)] = true := by decide +kernel
theorem k9_goodCries_6 : gAt m9_goodCries 6 [(.ireturn, 0, 0, 0)] = true := by decide +kernel
abbrev m9_stoppedCries : gM := (9, yX9_stoppedCries, cX9_stoppedCries, 1, (some .int), [], none)
theorem k9_stoppedCries_0 : gAt m9_stoppedCries 0 [(.aload_n 0, 0, 0, 0), (.bipush 10, 0, 0, 0)] = true := by decide +kernel
theorem k9_stoppedCries_6 : gAt m9_stoppedCries 6 [(.ireturn, 0, 0, 0)] = true := by decide +kernel
abbrev m9_lateOrders : gM := (9, yX9_lateOrders, cX9_lateOrders, 1, (some .int), [], none)
theorem k9_lateOrders_0 : gAt m9_lateOrders 0 [(.aload_n 0, 0, 0, 0), (.bipush 11, 0, 0, 0)] = true := by decide +kernel
theorem k9_lateOrders_6 : gAt m9_lateOrders 6 [(.ireturn, 0, 0, 0)] = true := by decide +kernel
abbrev m9_sumOf : gM := (9, yX9_sumOf, cX9_sumOf, 4, (some .int), [], none)
theorem k9_sumOf_0 : gAt m9_sumOf 0 [(.iconst 0, 0, 0, 0), (.istore_n 2, 0, 0, 0), (.iconst 0, 0, 0, 0), (.istore_n 3, 0, 0, 0)] = true := by decide +kernel
theorem k9_sumOf_4 : gAt m9_sumOf 4 [(.iload_n 3, 0, 0, 0), (.aload_n 0, 0, 0, 0), (.getfield 17, 9, 1, 0), (.iconst 5, 0, 0, 0), (.iaload, 0, 0, 0), (.if_icmp .ge 18, 29, 0, 0), (.iload_n 2, 0, 0, 0), (.aload_n 0, 0, 0, 0), (.iload_n 3, 0, 0, 0), (.iload_n 1, 0, 0, 0)] = true := by decide +kernel
theorem k9_sumOf_21 : gAt m9_sumOf 21 [(.iadd, 0, 0, 0), (.istore_n 2, 0, 0, 0), (.iinc 3 1, 0, 0, 0), (.goto (-22), 4, 0, 0)] = true := by decide +kernel
theorem k9_sumOf_29 : gAt m9_sumOf 29 [(.iload_n 2, 0, 0, 0), (.ireturn, 0, 0, 0)] = true := by decide +kernel
abbrev m9_coinDifference : gM := (9, yX9_coinDifference, cX9_coinDifference, 1, (some .int), [], none)
theorem k9_coinDifference_0 : gAt m9_coinDifference 0 [(.aload_n 0, 0, 0, 0), (.iconst 0, 0, 0, 0), (.putfield 3, 9, 0, 0), (.aload_n 0, 0, 0, 0), (.getfield 17, 9, 1, 0), (.bipush 12, 0, 0, 0), (.iaload, 0, 0, 0), (.aload_n 0, 0, 0, 0), (.iconst 2, 0, 0, 0)] = true := by decide +kernel
theorem k9_coinDifference_17 : gAt m9_coinDifference 17 [(.isub, 0, 0, 0), (.ireturn, 0, 0, 0)] = true := by decide +kernel
abbrev m9_goodDifference : gM := (9, yX9_goodDifference, cX9_goodDifference, 4, (some .int), [], none)
theorem k9_goodDifference_0 : gAt m9_goodDifference 0 [(.aload_n 0, 0, 0, 0), (.iconst 0, 0, 0, 0), (.putfield 3, 9, 0, 0), (.aload_n 0, 0, 0, 0)] = true := by decide +kernel
theorem k9_goodDifference_9 : gAt m9_goodDifference 9 [(.istore_n 1, 0, 0, 0), (.iconst 0, 0, 0, 0), (.istore_n 2, 0, 0, 0), (.iconst 0, 0, 0, 0), (.istore_n 3, 0, 0, 0)] = true := by decide +kernel
theorem k9_goodDifference_14 : gAt m9_goodDifference 14 [(.iload_n 3, 0, 0, 0), (.aload_n 0, 0, 0, 0), (.getfield 17, 9, 1, 0), (.bipush 6, 0, 0, 0), (.iaload, 0, 0, 0), (.if_icmp .ge 37, 59, 0, 0), (.iload_n 2, 0, 0, 0), (.aload_n 0, 0, 0, 0), (.iload_n 3, 0, 0, 0), (.iconst 2, 0, 0, 0)] = true := by decide +kernel
theorem k9_goodDifference_32 : gAt m9_goodDifference 32 [(.ifCond .ne 12, 44, 0, 0), (.aload_n 0, 0, 0, 0), (.getfield 33, 9, 6, 0), (.iload_n 3, 0, 0, 0), (.iaload, 0, 0, 0), (.goto 10, 51, 0, 0)] = true := by decide +kernel
theorem k9_goodDifference_44 : gAt m9_goodDifference 44 [(.aload_n 0, 0, 0, 0), (.getfield 33, 9, 6, 0), (.iload_n 3, 0, 0, 0), (.iaload, 0, 0, 0), (.ineg, 0, 0, 0)] = true := by decide +kernel
theorem k9_goodDifference_51 : gAt m9_goodDifference 51 [(.iadd, 0, 0, 0), (.istore_n 2, 0, 0, 0), (.iinc 3 1, 0, 0, 0), (.goto (-42), 14, 0, 0)] = true := by decide +kernel
theorem k9_goodDifference_59 : gAt m9_goodDifference 59 [(.aload_n 0, 0, 0, 0), (.getfield 17, 9, 1, 0), (.bipush 13, 0, 0, 0), (.iaload, 0, 0, 0), (.aload_n 0, 0, 0, 0), (.iconst 3, 0, 0, 0)] = true := by decide +kernel
theorem k9_goodDifference_71 : gAt m9_goodDifference 71 [(.isub, 0, 0, 0), (.iload_n 2, 0, 0, 0)] = true := by decide +kernel
theorem k9_goodDifference_76 : gAt m9_goodDifference 76 [(.iadd, 0, 0, 0), (.ireturn, 0, 0, 0)] = true := by decide +kernel
abbrev m9_tradedShare : gM := (9, yX9_tradedShare, cX9_tradedShare, 1, (some .float), [], none)
theorem k9_tradedShare_0 : gAt m9_tradedShare 0 [(.aload_n 0, 0, 0, 0), (.iconst 0, 0, 0, 0), (.putfield 3, 9, 0, 0), (.aload_n 0, 0, 0, 0), (.getfield 17, 9, 1, 0), (.bipush 15, 0, 0, 0), (.iaload, 0, 0, 0), (.ifCond .ne 7, 19, 0, 0), (.fconst 0, 0, 0, 0), (.goto 20, 36, 0, 0)] = true := by decide +kernel
theorem k9_tradedShare_19 : gAt m9_tradedShare 19 [(.aload_n 0, 0, 0, 0), (.getfield 17, 9, 1, 0), (.bipush 8, 0, 0, 0), (.iaload, 0, 0, 0), (.i2f, 0, 0, 0), (.aload_n 0, 0, 0, 0), (.getfield 17, 9, 1, 0), (.bipush 15, 0, 0, 0), (.iaload, 0, 0, 0), (.i2f, 0, 0, 0), (.fdiv, 0, 0, 0)] = true := by decide +kernel
theorem k9_tradedShare_36 : gAt m9_tradedShare 36 [(.freturn, 0, 0, 0)] = true := by decide +kernel
abbrev m9_meanPrice : gM := (9, yX9_meanPrice, cX9_meanPrice, 1, (some .double), [], none)
theorem k9_meanPrice_0 : gAt m9_meanPrice 0 [(.aload_n 0, 0, 0, 0), (.iconst 0, 0, 0, 0), (.putfield 3, 9, 0, 0), (.aload_n 0, 0, 0, 0), (.getfield 17, 9, 1, 0), (.bipush 8, 0, 0, 0), (.iaload, 0, 0, 0), (.ifCond .ne 7, 19, 0, 0), (.dconst 0, 0, 0, 0), (.goto 20, 36, 0, 0)] = true := by decide +kernel
theorem k9_meanPrice_19 : gAt m9_meanPrice 19 [(.aload_n 0, 0, 0, 0), (.getfield 17, 9, 1, 0), (.bipush 14, 0, 0, 0), (.iaload, 0, 0, 0), (.i2d, 0, 0, 0), (.aload_n 0, 0, 0, 0), (.getfield 17, 9, 1, 0), (.bipush 8, 0, 0, 0), (.iaload, 0, 0, 0), (.i2d, 0, 0, 0), (.ddiv, 0, 0, 0)] = true := by decide +kernel
theorem k9_meanPrice_36 : gAt m9_meanPrice 36 [(.dreturn, 0, 0, 0)] = true := by decide +kernel
abbrev m9_place : gM := (9, yX9_place, cX9_place, 8, (some .int), [], none)
theorem k9_place_0 : gAt m9_place 0 [(.aload_n 0, 0, 0, 0), (.iload_n 1, 0, 0, 0)] = true := by decide +kernel
theorem k9_place_5 : gAt m9_place 5 [(.istore 6, 0, 0, 0), (.aload_n 0, 0, 0, 0), (.iload_n 2, 0, 0, 0), (.iload_n 3, 0, 0, 0), (.iload 4, 0, 0, 0)] = true := by decide +kernel
theorem k9_place_15 : gAt m9_place 15 [(.ifCond .eq 20, 35, 0, 0), (.iload 5, 0, 0, 0), (.i2l, 0, 0, 0), (.lconst 0, 0, 0, 0), (.ldc2_w 414, 0, 3, 0)] = true := by decide +kernel
theorem k9_place_28 : gAt m9_place 28 [(.ifCond .eq 7, 35, 0, 0), (.iconst 1, 0, 0, 0), (.goto 4, 36, 0, 0)] = true := by decide +kernel
theorem k9_place_35 : gAt m9_place 35 [(.iconst 0, 0, 0, 0)] = true := by decide +kernel
theorem k9_place_36 : gAt m9_place 36 [(.istore 7, 0, 0, 0), (.aload_n 0, 0, 0, 0), (.iload 6, 0, 0, 0), (.iload 7, 0, 0, 0), (.iload 6, 0, 0, 0), (.ifCond .eq 24, 69, 0, 0), (.iload 7, 0, 0, 0), (.ifCond .eq 19, 69, 0, 0), (.aload_n 0, 0, 0, 0), (.iload_n 1, 0, 0, 0), (.iload_n 2, 0, 0, 0), (.iload_n 3, 0, 0, 0), (.iload 4, 0, 0, 0)] = true := by decide +kernel
theorem k9_place_62 : gAt m9_place 62 [(.ifCond .ne 7, 69, 0, 0), (.iconst 1, 0, 0, 0), (.goto 4, 70, 0, 0)] = true := by decide +kernel
theorem k9_place_69 : gAt m9_place 69 [(.iconst 0, 0, 0, 0)] = true := by decide +kernel
theorem k9_place_73 : gAt m9_place 73 [(.ifCond .ne 5, 78, 0, 0), (.iconst 0, 0, 0, 0), (.ireturn, 0, 0, 0)] = true := by decide +kernel
theorem k9_place_78 : gAt m9_place 78 [(.aload_n 0, 0, 0, 0)] = true := by decide +kernel
theorem k9_place_82 : gAt m9_place 82 [(.aload_n 0, 0, 0, 0), (.iload_n 1, 0, 0, 0), (.iload_n 2, 0, 0, 0), (.iload_n 3, 0, 0, 0), (.iload 4, 0, 0, 0), (.iload 5, 0, 0, 0)] = true := by decide +kernel
theorem k9_place_93 : gAt m9_place 93 [(.ireturn, 0, 0, 0)] = true := by decide +kernel
abbrev m9_withdraw : gM := (9, yX9_withdraw, cX9_withdraw, 3, (some .int), [], none)
theorem k9_withdraw_0 : gAt m9_withdraw 0 [(.aload_n 0, 0, 0, 0), (.iload_n 1, 0, 0, 0)] = true := by decide +kernel
theorem k9_withdraw_5 : gAt m9_withdraw 5 [(.ifCond .ne 5, 10, 0, 0), (.iconst 0, 0, 0, 0), (.ireturn, 0, 0, 0)] = true := by decide +kernel
theorem k9_withdraw_10 : gAt m9_withdraw 10 [(.aload_n 0, 0, 0, 0)] = true := by decide +kernel
theorem k9_withdraw_14 : gAt m9_withdraw 14 [(.aload_n 0, 0, 0, 0), (.aload_n 0, 0, 0, 0), (.iload_n 1, 0, 0, 0)] = true := by decide +kernel
theorem k9_withdraw_20 : gAt m9_withdraw 20 [(.iconst 4, 0, 0, 0)] = true := by decide +kernel
theorem k9_withdraw_24 : gAt m9_withdraw 24 [(.istore_n 2, 0, 0, 0), (.aload_n 0, 0, 0, 0), (.aload_n 0, 0, 0, 0), (.iload_n 1, 0, 0, 0)] = true := by decide +kernel
theorem k9_withdraw_34 : gAt m9_withdraw 34 [(.iload_n 2, 0, 0, 0), (.ireturn, 0, 0, 0)] = true := by decide +kernel
abbrev m9_change : gM := (9, yX9_change, cX9_change, 4, (some .int), [], none)
theorem k9_change_0 : gAt m9_change 0 [(.aload_n 0, 0, 0, 0)] = true := by decide +kernel
theorem k9_change_4 : gAt m9_change 4 [(.aload_n 0, 0, 0, 0), (.getfield 17, 9, 1, 0), (.iload_n 1, 0, 0, 0), (.iaload, 0, 0, 0), (.istore_n 3, 0, 0, 0), (.aload_n 0, 0, 0, 0), (.getfield 17, 9, 1, 0), (.iload_n 1, 0, 0, 0), (.iload_n 2, 0, 0, 0), (.iastore, 0, 0, 0), (.iload_n 3, 0, 0, 0), (.ireturn, 0, 0, 0)] = true := by decide +kernel
abbrev m9_setRule : gM := (9, yX9_setRule, cX9_setRule, 2, (some .int), [], none)
theorem k9_setRule_0 : gAt m9_setRule 0 [(.aload_n 0, 0, 0, 0), (.iload_n 1, 0, 0, 0), (.i2l, 0, 0, 0), (.lconst 0, 0, 0, 0), (.lconst 1, 0, 0, 0)] = true := by decide +kernel
theorem k9_setRule_11 : gAt m9_setRule 11 [(.ifCond .eq 12, 23, 0, 0), (.aload_n 0, 0, 0, 0), (.iconst 3, 0, 0, 0), (.iload_n 1, 0, 0, 0)] = true := by decide +kernel
theorem k9_setRule_20 : gAt m9_setRule 20 [(.goto 4, 24, 0, 0)] = true := by decide +kernel
theorem k9_setRule_23 : gAt m9_setRule 23 [(.iconst 0, 0, 0, 0)] = true := by decide +kernel
theorem k9_setRule_24 : gAt m9_setRule 24 [(.ireturn, 0, 0, 0)] = true := by decide +kernel
abbrev m9_setBand : gM := (9, yX9_setBand, cX9_setBand, 2, (some .int), [], none)
theorem k9_setBand_0 : gAt m9_setBand 0 [(.aload_n 0, 0, 0, 0), (.iload_n 1, 0, 0, 0), (.i2l, 0, 0, 0), (.lconst 0, 0, 0, 0), (.ldc2_w 414, 0, 3, 0)] = true := by decide +kernel
theorem k9_setBand_13 : gAt m9_setBand 13 [(.ifCond .eq 12, 25, 0, 0), (.aload_n 0, 0, 0, 0), (.iconst 2, 0, 0, 0), (.iload_n 1, 0, 0, 0)] = true := by decide +kernel
theorem k9_setBand_22 : gAt m9_setBand 22 [(.goto 4, 26, 0, 0)] = true := by decide +kernel
theorem k9_setBand_25 : gAt m9_setBand 25 [(.iconst 0, 0, 0, 0)] = true := by decide +kernel
theorem k9_setBand_26 : gAt m9_setBand 26 [(.ireturn, 0, 0, 0)] = true := by decide +kernel
abbrev m9_pay : gM := (9, yX9_pay, cX9_pay, 5, (some .int), [], none)
theorem k9_pay_0 : gAt m9_pay 0 [(.aload_n 0, 0, 0, 0), (.iload_n 1, 0, 0, 0)] = true := by decide +kernel
theorem k9_pay_5 : gAt m9_pay 5 [(.istore_n 3, 0, 0, 0), (.iload_n 2, 0, 0, 0), (.i2l, 0, 0, 0), (.lconst 1, 0, 0, 0), (.ldc2_w 470, 0, 5, 0)] = true := by decide +kernel
theorem k9_pay_15 : gAt m9_pay 15 [(.istore 4, 0, 0, 0), (.aload_n 0, 0, 0, 0), (.iload_n 3, 0, 0, 0), (.iload 4, 0, 0, 0), (.iload_n 3, 0, 0, 0), (.ifCond .eq 26, 48, 0, 0), (.iload 4, 0, 0, 0), (.ifCond .eq 21, 48, 0, 0), (.aload_n 0, 0, 0, 0), (.iload_n 1, 0, 0, 0), (.iconst 2, 0, 0, 0)] = true := by decide +kernel
theorem k9_pay_36 : gAt m9_pay 36 [(.iload_n 2, 0, 0, 0), (.iadd, 0, 0, 0), (.ldc_w 342, 0, 6, 0), (.if_icmp .gt 7, 48, 0, 0), (.iconst 1, 0, 0, 0), (.goto 4, 49, 0, 0)] = true := by decide +kernel
theorem k9_pay_48 : gAt m9_pay 48 [(.iconst 0, 0, 0, 0)] = true := by decide +kernel
theorem k9_pay_52 : gAt m9_pay 52 [(.ifCond .ne 5, 57, 0, 0), (.iconst 0, 0, 0, 0), (.ireturn, 0, 0, 0)] = true := by decide +kernel
theorem k9_pay_57 : gAt m9_pay 57 [(.aload_n 0, 0, 0, 0)] = true := by decide +kernel
theorem k9_pay_61 : gAt m9_pay 61 [(.aload_n 0, 0, 0, 0), (.iload_n 1, 0, 0, 0), (.iconst 2, 0, 0, 0), (.iload_n 2, 0, 0, 0)] = true := by decide +kernel
theorem k9_pay_68 : gAt m9_pay 68 [(.aload_n 0, 0, 0, 0), (.getfield 17, 9, 1, 0), (.bipush 12, 0, 0, 0), (.dup2, 0, 0, 0), (.iaload, 0, 0, 0), (.iload_n 2, 0, 0, 0), (.iadd, 0, 0, 0), (.iastore, 0, 0, 0), (.aload_n 0, 0, 0, 0), (.iload_n 1, 0, 0, 0), (.iconst 2, 0, 0, 0)] = true := by decide +kernel
theorem k9_pay_85 : gAt m9_pay 85 [(.ireturn, 0, 0, 0)] = true := by decide +kernel
abbrev m9_cry : gM := (9, yX9_cry, cX9_cry, 2, (some .int), [], none)
theorem k9_cry_0 : gAt m9_cry 0 [(.aload_n 0, 0, 0, 0), (.iconst 0, 0, 0, 0), (.putfield 3, 9, 0, 0), (.aload_n 0, 0, 0, 0)] = true := by decide +kernel
theorem k9_cry_9 : gAt m9_cry 9 [(.aload_n 0, 0, 0, 0), (.getfield 17, 9, 1, 0), (.bipush 8, 0, 0, 0), (.iaload, 0, 0, 0), (.istore_n 1, 0, 0, 0), (.aload_n 0, 0, 0, 0)] = true := by decide +kernel
theorem k9_cry_21 : gAt m9_cry 21 [(.aload_n 0, 0, 0, 0), (.getfield 17, 9, 1, 0), (.bipush 8, 0, 0, 0), (.iaload, 0, 0, 0), (.iload_n 1, 0, 0, 0), (.isub, 0, 0, 0), (.ireturn, 0, 0, 0)] = true := by decide +kernel
abbrev m9_pass : gM := (9, yX9_pass, cX9_pass, 3, (some .int), [], none)
theorem k9_pass_0 : gAt m9_pass 0 [(.aload_n 0, 0, 0, 0), (.iload_n 1, 0, 0, 0), (.i2l, 0, 0, 0), (.lconst 1, 0, 0, 0), (.ldc2_w 472, 0, 6, 0)] = true := by decide +kernel
theorem k9_pass_13 : gAt m9_pass 13 [(.ifCond .ne 5, 18, 0, 0), (.iconst 0, 0, 0, 0), (.ireturn, 0, 0, 0)] = true := by decide +kernel
theorem k9_pass_18 : gAt m9_pass 18 [(.aload_n 0, 0, 0, 0)] = true := by decide +kernel
theorem k9_pass_22 : gAt m9_pass 22 [(.aload_n 0, 0, 0, 0), (.getfield 17, 9, 1, 0), (.bipush 8, 0, 0, 0), (.iaload, 0, 0, 0), (.istore_n 2, 0, 0, 0), (.aload_n 0, 0, 0, 0), (.iload_n 1, 0, 0, 0)] = true := by decide +kernel
theorem k9_pass_35 : gAt m9_pass 35 [(.aload_n 0, 0, 0, 0), (.getfield 17, 9, 1, 0), (.bipush 8, 0, 0, 0), (.iaload, 0, 0, 0), (.iload_n 2, 0, 0, 0), (.isub, 0, 0, 0), (.ireturn, 0, 0, 0)] = true := by decide +kernel
abbrev m9_save : gM := (9, yX9_save, cX9_save, 3, (some .int), [], none)
theorem k9_save_0 : gAt m9_save 0 [(.aload_n 0, 0, 0, 0), (.iload_n 1, 0, 0, 0), (.i2l, 0, 0, 0), (.lconst 0, 0, 0, 0), (.lconst 1, 0, 0, 0)] = true := by decide +kernel
theorem k9_save_11 : gAt m9_save 11 [(.ifCond .ne 5, 16, 0, 0), (.iconst 0, 0, 0, 0), (.ireturn, 0, 0, 0)] = true := by decide +kernel
theorem k9_save_16 : gAt m9_save 16 [(.iconst 0, 0, 0, 0), (.istore_n 2, 0, 0, 0)] = true := by decide +kernel
theorem k9_save_18 : gAt m9_save 18 [(.iload_n 2, 0, 0, 0), (.sipush 174, 0, 0, 0), (.if_icmp .ge 27, 49, 0, 0), (.aload_n 0, 0, 0, 0), (.getfield 128, 9, 35, 0), (.sipush 174, 0, 0, 0), (.iload_n 1, 0, 0, 0), (.imul, 0, 0, 0), (.iload_n 2, 0, 0, 0), (.iadd, 0, 0, 0), (.aload_n 0, 0, 0, 0), (.getfield 17, 9, 1, 0), (.iload_n 2, 0, 0, 0), (.iaload, 0, 0, 0), (.iastore, 0, 0, 0), (.iinc 2 1, 0, 0, 0), (.goto (-28), 18, 0, 0)] = true := by decide +kernel
theorem k9_save_49 : gAt m9_save 49 [(.aload_n 0, 0, 0, 0), (.dup, 0, 0, 0), (.getfield 474, 9, 36, 0), (.iconst 1, 0, 0, 0), (.iload_n 1, 0, 0, 0), (.ishl, 0, 0, 0), (.ior, 0, 0, 0), (.putfield 474, 9, 36, 0), (.aload_n 0, 0, 0, 0), (.getfield 17, 9, 1, 0), (.iconst 4, 0, 0, 0), (.iaload, 0, 0, 0), (.ireturn, 0, 0, 0)] = true := by decide +kernel
abbrev m9_restore : gM := (9, yX9_restore, cX9_restore, 4, (some .int), [], none)
theorem k9_restore_0 : gAt m9_restore 0 [(.iload_n 1, 0, 0, 0), (.i2l, 0, 0, 0), (.lconst 0, 0, 0, 0), (.lconst 1, 0, 0, 0)] = true := by decide +kernel
theorem k9_restore_7 : gAt m9_restore 7 [(.istore_n 2, 0, 0, 0), (.aload_n 0, 0, 0, 0), (.iload_n 2, 0, 0, 0), (.iload_n 2, 0, 0, 0), (.ifCond .eq 19, 30, 0, 0), (.aload_n 0, 0, 0, 0), (.getfield 474, 9, 36, 0), (.iload_n 1, 0, 0, 0), (.ishr, 0, 0, 0), (.iconst 1, 0, 0, 0), (.iand, 0, 0, 0), (.iconst 1, 0, 0, 0), (.if_icmp .ne 7, 30, 0, 0), (.iconst 1, 0, 0, 0), (.goto 4, 31, 0, 0)] = true := by decide +kernel
theorem k9_restore_30 : gAt m9_restore 30 [(.iconst 0, 0, 0, 0)] = true := by decide +kernel
theorem k9_restore_34 : gAt m9_restore 34 [(.ifCond .ne 5, 39, 0, 0), (.iconst 0, 0, 0, 0), (.ireturn, 0, 0, 0)] = true := by decide +kernel
theorem k9_restore_39 : gAt m9_restore 39 [(.aload_n 0, 0, 0, 0)] = true := by decide +kernel
theorem k9_restore_43 : gAt m9_restore 43 [(.iconst 0, 0, 0, 0), (.istore_n 3, 0, 0, 0)] = true := by decide +kernel
theorem k9_restore_45 : gAt m9_restore 45 [(.iload_n 3, 0, 0, 0), (.sipush 174, 0, 0, 0), (.if_icmp .ge 27, 76, 0, 0), (.aload_n 0, 0, 0, 0), (.getfield 17, 9, 1, 0), (.iload_n 3, 0, 0, 0), (.aload_n 0, 0, 0, 0), (.getfield 128, 9, 35, 0), (.sipush 174, 0, 0, 0), (.iload_n 1, 0, 0, 0), (.imul, 0, 0, 0), (.iload_n 3, 0, 0, 0), (.iadd, 0, 0, 0), (.iaload, 0, 0, 0), (.iastore, 0, 0, 0), (.iinc 3 1, 0, 0, 0), (.goto (-28), 45, 0, 0)] = true := by decide +kernel
theorem k9_restore_76 : gAt m9_restore 76 [(.aload_n 0, 0, 0, 0), (.getfield 17, 9, 1, 0), (.iconst 4, 0, 0, 0), (.iaload, 0, 0, 0), (.ireturn, 0, 0, 0)] = true := by decide +kernel
abbrev m9_undo : gM := (9, yX9_undo, cX9_undo, 2, (some .int), [], none)
theorem k9_undo_0 : gAt m9_undo 0 [(.aload_n 0, 0, 0, 0), (.aload_n 0, 0, 0, 0), (.getfield 395, 9, 34, 0), (.ifCond .le 7, 12, 0, 0), (.iconst 1, 0, 0, 0), (.goto 4, 13, 0, 0)] = true := by decide +kernel
theorem k9_undo_12 : gAt m9_undo 12 [(.iconst 0, 0, 0, 0)] = true := by decide +kernel
theorem k9_undo_16 : gAt m9_undo 16 [(.ifCond .ne 5, 21, 0, 0), (.iconst 0, 0, 0, 0), (.ireturn, 0, 0, 0)] = true := by decide +kernel
theorem k9_undo_21 : gAt m9_undo 21 [(.aload_n 0, 0, 0, 0), (.dup, 0, 0, 0), (.getfield 395, 9, 34, 0), (.iconst 1, 0, 0, 0), (.isub, 0, 0, 0), (.putfield 395, 9, 34, 0), (.iconst 0, 0, 0, 0), (.istore_n 1, 0, 0, 0)] = true := by decide +kernel
theorem k9_undo_33 : gAt m9_undo 33 [(.iload_n 1, 0, 0, 0), (.sipush 174, 0, 0, 0), (.if_icmp .ge 30, 67, 0, 0), (.aload_n 0, 0, 0, 0), (.getfield 17, 9, 1, 0), (.iload_n 1, 0, 0, 0), (.aload_n 0, 0, 0, 0), (.getfield 125, 9, 33, 0), (.sipush 174, 0, 0, 0), (.aload_n 0, 0, 0, 0), (.getfield 395, 9, 34, 0), (.imul, 0, 0, 0), (.iload_n 1, 0, 0, 0), (.iadd, 0, 0, 0), (.iaload, 0, 0, 0), (.iastore, 0, 0, 0), (.iinc 1 1, 0, 0, 0), (.goto (-31), 33, 0, 0)] = true := by decide +kernel
theorem k9_undo_67 : gAt m9_undo 67 [(.aload_n 0, 0, 0, 0), (.getfield 395, 9, 34, 0), (.ireturn, 0, 0, 0)] = true := by decide +kernel
abbrev m9_put : gM := (9, yX9_put, cX9_put, 2, none, [], none)
theorem k9_put_0 : gAt m9_put 0 [(.aload_n 0, 0, 0, 0), (.getfield 134, 9, 39, 0), (.aload_n 0, 0, 0, 0), (.getfield 477, 9, 40, 0), (.iload_n 1, 0, 0, 0), (.iastore, 0, 0, 0), (.aload_n 0, 0, 0, 0), (.dup, 0, 0, 0), (.getfield 477, 9, 40, 0), (.iconst 1, 0, 0, 0), (.iadd, 0, 0, 0), (.putfield 477, 9, 40, 0), (.return_, 0, 0, 0)] = true := by decide +kernel
abbrev m9_putNumber : gM := (9, yX9_putNumber, cX9_putNumber, 3, none, [], none)
theorem k9_putNumber_0 : gAt m9_putNumber 0 [(.iconst 1, 0, 0, 0), (.istore_n 2, 0, 0, 0)] = true := by decide +kernel
theorem k9_putNumber_2 : gAt m9_putNumber 2 [(.iload_n 2, 0, 0, 0), (.iload_n 1, 0, 0, 0), (.bipush 10, 0, 0, 0), (.idiv, 0, 0, 0), (.if_icmp .gt 11, 18, 0, 0), (.iload_n 2, 0, 0, 0), (.bipush 10, 0, 0, 0), (.imul, 0, 0, 0), (.istore_n 2, 0, 0, 0), (.goto (-13), 2, 0, 0)] = true := by decide +kernel
theorem k9_putNumber_18 : gAt m9_putNumber 18 [(.iload_n 2, 0, 0, 0), (.ifCond .le 24, 43, 0, 0), (.aload_n 0, 0, 0, 0), (.bipush 48, 0, 0, 0), (.iload_n 1, 0, 0, 0), (.iload_n 2, 0, 0, 0), (.idiv, 0, 0, 0), (.bipush 10, 0, 0, 0), (.irem, 0, 0, 0), (.iadd, 0, 0, 0)] = true := by decide +kernel
theorem k9_putNumber_35 : gAt m9_putNumber 35 [(.iload_n 2, 0, 0, 0), (.bipush 10, 0, 0, 0), (.idiv, 0, 0, 0), (.istore_n 2, 0, 0, 0), (.goto (-22), 18, 0, 0)] = true := by decide +kernel
theorem k9_putNumber_43 : gAt m9_putNumber 43 [(.return_, 0, 0, 0)] = true := by decide +kernel
abbrev m9_putGap : gM := (9, yX9_putGap, cX9_putGap, 2, none, [], none)
theorem k9_putGap_0 : gAt m9_putGap 0 [(.iload_n 1, 0, 0, 0), (.ifCond .ne 9, 10, 0, 0), (.aload_n 0, 0, 0, 0), (.bipush 32, 0, 0, 0)] = true := by decide +kernel
theorem k9_putGap_10 : gAt m9_putGap 10 [(.return_, 0, 0, 0)] = true := by decide +kernel
abbrev m9_letterOf : gM := (9, yX9_letterOf, cX9_letterOf, 5, (some .int), [], none)
theorem k9_letterOf_0 : gAt m9_letterOf 0 [(.iload_n 0, 0, 0, 0), (.istore_n 3, 0, 0, 0), (.iload_n 1, 0, 0, 0), (.iconst 1, 0, 0, 0), (.isub, 0, 0, 0), (.istore 4, 0, 0, 0)] = true := by decide +kernel
theorem k9_letterOf_7 : gAt m9_letterOf 7 [(.iload 4, 0, 0, 0), (.iload_n 2, 0, 0, 0), (.if_icmp .le 14, 24, 0, 0), (.iload_n 3, 0, 0, 0), (.bipush 27, 0, 0, 0), (.idiv, 0, 0, 0), (.istore_n 3, 0, 0, 0), (.iinc 4 (-1), 0, 0, 0), (.goto (-14), 7, 0, 0)] = true := by decide +kernel
theorem k9_letterOf_24 : gAt m9_letterOf 24 [(.bipush 97, 0, 0, 0), (.iload_n 3, 0, 0, 0), (.bipush 27, 0, 0, 0), (.irem, 0, 0, 0), (.iadd, 0, 0, 0), (.iconst 1, 0, 0, 0), (.isub, 0, 0, 0), (.ireturn, 0, 0, 0)] = true := by decide +kernel
abbrev m9_putOrder : gM := (9, yX9_putOrder, cX9_putOrder, 4, none, [], none)
theorem k9_putOrder_0 : gAt m9_putOrder 0 [(.aload_n 0, 0, 0, 0), (.iload_n 1, 0, 0, 0), (.iconst 1, 0, 0, 0)] = true := by decide +kernel
theorem k9_putOrder_6 : gAt m9_putOrder 6 [(.istore_n 2, 0, 0, 0), (.iconst 0, 0, 0, 0), (.istore_n 3, 0, 0, 0)] = true := by decide +kernel
theorem k9_putOrder_9 : gAt m9_putOrder 9 [(.iload_n 3, 0, 0, 0), (.aload_n 0, 0, 0, 0), (.iload_n 2, 0, 0, 0), (.iconst 1, 0, 0, 0)] = true := by decide +kernel
theorem k9_putOrder_16 : gAt m9_putOrder 16 [(.if_icmp .ge 29, 45, 0, 0), (.aload_n 0, 0, 0, 0), (.aload_n 0, 0, 0, 0), (.iload_n 2, 0, 0, 0), (.iconst 0, 0, 0, 0)] = true := by decide +kernel
theorem k9_putOrder_26 : gAt m9_putOrder 26 [(.aload_n 0, 0, 0, 0), (.iload_n 2, 0, 0, 0), (.iconst 1, 0, 0, 0)] = true := by decide +kernel
theorem k9_putOrder_32 : gAt m9_putOrder 32 [(.iload_n 3, 0, 0, 0)] = true := by decide +kernel
theorem k9_putOrder_39 : gAt m9_putOrder 39 [(.iinc 3 1, 0, 0, 0), (.goto (-33), 9, 0, 0)] = true := by decide +kernel
theorem k9_putOrder_45 : gAt m9_putOrder 45 [(.aload_n 0, 0, 0, 0), (.bipush 64, 0, 0, 0)] = true := by decide +kernel
theorem k9_putOrder_51 : gAt m9_putOrder 51 [(.aload_n 0, 0, 0, 0), (.aload_n 0, 0, 0, 0), (.iload_n 1, 0, 0, 0), (.iconst 3, 0, 0, 0)] = true := by decide +kernel
theorem k9_putOrder_61 : gAt m9_putOrder 61 [(.aload_n 0, 0, 0, 0), (.bipush 120, 0, 0, 0)] = true := by decide +kernel
theorem k9_putOrder_67 : gAt m9_putOrder 67 [(.aload_n 0, 0, 0, 0), (.aload_n 0, 0, 0, 0), (.iload_n 1, 0, 0, 0), (.iconst 4, 0, 0, 0)] = true := by decide +kernel
theorem k9_putOrder_77 : gAt m9_putOrder 77 [(.return_, 0, 0, 0)] = true := by decide +kernel
abbrev m9_withRank : gM := (9, yX9_withRank, cX9_withRank, 4, (some .int), [], none)
theorem k9_withRank_0 : gAt m9_withRank 0 [(.iconst 0, 0, 0, 0), (.istore_n 3, 0, 0, 0)] = true := by decide +kernel
theorem k9_withRank_2 : gAt m9_withRank 2 [(.iload_n 3, 0, 0, 0), (.aload_n 0, 0, 0, 0), (.getfield 17, 9, 1, 0), (.bipush 6, 0, 0, 0), (.iaload, 0, 0, 0), (.if_icmp .ge 35, 45, 0, 0), (.aload_n 0, 0, 0, 0), (.iload_n 3, 0, 0, 0), (.iconst 2, 0, 0, 0)] = true := by decide +kernel
theorem k9_withRank_19 : gAt m9_withRank 19 [(.iload_n 1, 0, 0, 0), (.if_icmp .ne 19, 39, 0, 0), (.aload_n 0, 0, 0, 0), (.aload_n 0, 0, 0, 0), (.iload_n 3, 0, 0, 0), (.iconst 0, 0, 0, 0)] = true := by decide +kernel
theorem k9_withRank_33 : gAt m9_withRank 33 [(.iload_n 2, 0, 0, 0), (.if_icmp .ne 5, 39, 0, 0), (.iload_n 3, 0, 0, 0), (.ireturn, 0, 0, 0)] = true := by decide +kernel
theorem k9_withRank_39 : gAt m9_withRank 39 [(.iinc 3 1, 0, 0, 0), (.goto (-40), 2, 0, 0)] = true := by decide +kernel
theorem k9_withRank_45 : gAt m9_withRank 45 [(.iconst (-1), 0, 0, 0), (.ireturn, 0, 0, 0)] = true := by decide +kernel
abbrev m9_printSide : gM := (9, yX9_printSide, cX9_printSide, 3, (some .int), [], none)
theorem k9_printSide_0 : gAt m9_printSide 0 [(.aload_n 0, 0, 0, 0), (.iload_n 1, 0, 0, 0)] = true := by decide +kernel
theorem k9_printSide_8 : gAt m9_printSide 8 [(.ifCond .ne 5, 13, 0, 0), (.iconst 0, 0, 0, 0), (.ireturn, 0, 0, 0)] = true := by decide +kernel
theorem k9_printSide_13 : gAt m9_printSide 13 [(.aload_n 0, 0, 0, 0), (.iconst 0, 0, 0, 0), (.putfield 477, 9, 40, 0), (.iconst 0, 0, 0, 0), (.istore_n 2, 0, 0, 0)] = true := by decide +kernel
theorem k9_printSide_20 : gAt m9_printSide 20 [(.aload_n 0, 0, 0, 0), (.iload_n 1, 0, 0, 0), (.iload_n 2, 0, 0, 0)] = true := by decide +kernel
theorem k9_printSide_26 : gAt m9_printSide 26 [(.iconst (-1), 0, 0, 0), (.if_icmp .eq 32, 59, 0, 0), (.aload_n 0, 0, 0, 0), (.iload_n 2, 0, 0, 0), (.ifCond .ne 7, 39, 0, 0), (.iconst 1, 0, 0, 0), (.goto 4, 40, 0, 0)] = true := by decide +kernel
theorem k9_printSide_39 : gAt m9_printSide 39 [(.iconst 0, 0, 0, 0)] = true := by decide +kernel
theorem k9_printSide_43 : gAt m9_printSide 43 [(.aload_n 0, 0, 0, 0), (.aload_n 0, 0, 0, 0), (.iload_n 1, 0, 0, 0), (.iload_n 2, 0, 0, 0)] = true := by decide +kernel
theorem k9_printSide_53 : gAt m9_printSide 53 [(.iinc 2 1, 0, 0, 0), (.goto (-36), 20, 0, 0)] = true := by decide +kernel
theorem k9_printSide_59 : gAt m9_printSide 59 [(.aload_n 0, 0, 0, 0), (.getfield 477, 9, 40, 0), (.ifCond .ne 9, 72, 0, 0), (.aload_n 0, 0, 0, 0), (.bipush 45, 0, 0, 0)] = true := by decide +kernel
theorem k9_printSide_72 : gAt m9_printSide 72 [(.aload_n 0, 0, 0, 0), (.getfield 477, 9, 40, 0), (.ireturn, 0, 0, 0)] = true := by decide +kernel
abbrev m9_outputByte : gM := (9, yX9_outputByte, cX9_outputByte, 2, (some .int), [], none)
theorem k9_outputByte_0 : gAt m9_outputByte 0 [(.aload_n 0, 0, 0, 0), (.iload_n 1, 0, 0, 0), (.i2l, 0, 0, 0), (.lconst 0, 0, 0, 0), (.aload_n 0, 0, 0, 0), (.getfield 477, 9, 40, 0), (.iconst 1, 0, 0, 0), (.isub, 0, 0, 0), (.i2l, 0, 0, 0)] = true := by decide +kernel
theorem k9_outputByte_17 : gAt m9_outputByte 17 [(.ifCond .eq 12, 29, 0, 0), (.aload_n 0, 0, 0, 0), (.getfield 134, 9, 39, 0), (.iload_n 1, 0, 0, 0), (.iaload, 0, 0, 0), (.goto 4, 30, 0, 0)] = true := by decide +kernel
theorem k9_outputByte_29 : gAt m9_outputByte 29 [(.iconst 0, 0, 0, 0)] = true := by decide +kernel
theorem k9_outputByte_30 : gAt m9_outputByte 30 [(.ireturn, 0, 0, 0)] = true := by decide +kernel
