section LAW0
set_option maxRecDepth 100000
/-! ### the law: its blocks, its calls -/
abbrev mL_law (sc : Option (Nat × Nat × (Nat → Int32))) : gM := (10, yL_law, cL_law, 9, (some .boolean), [], sc)
theorem gOk_sc (sc : Option (Nat × Nat × (Nat → Int32))) (pc : Nat) (i : gI) : gOk (mL_law sc) pc i = gOk (mL_law none) pc i := by
  obtain ⟨i, a, b, t⟩ := i
  cases i <;> rfl
theorem gAt_sc (sc : Option (Nat × Nat × (Nat → Int32))) : ∀ (is : List gI) (pc : Nat), gAt (mL_law none) pc is = true → gAt (mL_law sc) pc is = true := by
  intro is
  induction is with
  | nil => intro _ _; rfl
  | cons i is ih =>
    intro pc h
    simp only [gAt, Bool.and_eq_true] at h ⊢
    exact ⟨⟨h.1.1, by rw [gOk_sc]; exact h.1.2⟩, ih _ h.2⟩
theorem k0L_law_3 : gAt (mL_law none) 3 [(.dup, 0, 0, 0)] = true := by decide +kernel
theorem k0L_law_7 : gAt (mL_law none) 7 [(.astore_n 1, 0, 0, 0)] = true := by decide +kernel
theorem k0L_law_11 : gAt (mL_law none) 11 [(.dup, 0, 0, 0)] = true := by decide +kernel
theorem k0L_law_15 : gAt (mL_law none) 15 [(.astore_n 2, 0, 0, 0), (.iconst 1, 0, 0, 0)] = true := by decide +kernel
theorem k0L_law_19 : gAt (mL_law none) 19 [(.astore_n 3, 0, 0, 0), (.iconst 0, 0, 0, 0), (.istore 4, 0, 0, 0)] = true := by decide +kernel
theorem k0L_law_23 : gAt (mL_law none) 23 [(.iload 4, 0, 0, 0), (.aload_n 0, 0, 0, 0)] = true := by decide +kernel
theorem k0L_law_27 : gAt (mL_law none) 27 [(.bipush 6, 0, 0, 0), (.isub, 0, 0, 0), (.if_icmp .gt 3035, 3065, 0, 0), (.aload_n 0, 0, 0, 0), (.iload 4, 0, 0, 0)] = true := by decide +kernel
theorem k0L_law_37 : gAt (mL_law none) 37 [(.bipush 63, 0, 0, 0), (.iand, 0, 0, 0)] = true := by decide +kernel
theorem k0L_law_312 : gAt (mL_law none) 312 [(.aload_n 1, 0, 0, 0), (.aload_n 0, 0, 0, 0), (.iload 4, 0, 0, 0), (.iconst 1, 0, 0, 0), (.iadd, 0, 0, 0)] = true := by decide +kernel
theorem k0L_law_319 : gAt (mL_law none) 319 [(.aload_n 0, 0, 0, 0), (.iload 4, 0, 0, 0), (.iconst 2, 0, 0, 0), (.iadd, 0, 0, 0)] = true := by decide +kernel
theorem k0L_law_325 : gAt (mL_law none) 325 [(.aload_n 0, 0, 0, 0), (.iload 4, 0, 0, 0), (.iconst 3, 0, 0, 0), (.iadd, 0, 0, 0)] = true := by decide +kernel
theorem k0L_law_331 : gAt (mL_law none) 331 [(.aload_n 0, 0, 0, 0), (.iload 4, 0, 0, 0), (.iconst 4, 0, 0, 0), (.iadd, 0, 0, 0)] = true := by decide +kernel
theorem k0L_law_337 : gAt (mL_law none) 337 [(.aload_n 0, 0, 0, 0), (.iload 4, 0, 0, 0), (.iconst 5, 0, 0, 0), (.iadd, 0, 0, 0)] = true := by decide +kernel
theorem k0L_law_343 : gAt (mL_law none) 343 [(.aload_n 3, 0, 0, 0)] = true := by decide +kernel
theorem k0L_law_347 : gAt (mL_law none) 347 [(.istore 5, 0, 0, 0), (.aload_n 2, 0, 0, 0), (.aload_n 0, 0, 0, 0), (.iload 4, 0, 0, 0), (.iconst 1, 0, 0, 0), (.iadd, 0, 0, 0)] = true := by decide +kernel
theorem k0L_law_356 : gAt (mL_law none) 356 [(.aload_n 0, 0, 0, 0), (.iload 4, 0, 0, 0), (.iconst 2, 0, 0, 0), (.iadd, 0, 0, 0)] = true := by decide +kernel
theorem k0L_law_362 : gAt (mL_law none) 362 [(.aload_n 0, 0, 0, 0), (.iload 4, 0, 0, 0), (.iconst 3, 0, 0, 0), (.iadd, 0, 0, 0)] = true := by decide +kernel
theorem k0L_law_368 : gAt (mL_law none) 368 [(.aload_n 0, 0, 0, 0), (.iload 4, 0, 0, 0), (.iconst 4, 0, 0, 0), (.iadd, 0, 0, 0)] = true := by decide +kernel
theorem k0L_law_374 : gAt (mL_law none) 374 [(.aload_n 0, 0, 0, 0), (.iload 4, 0, 0, 0), (.iconst 5, 0, 0, 0), (.iadd, 0, 0, 0)] = true := by decide +kernel
theorem k0L_law_383 : gAt (mL_law none) 383 [(.istore 6, 0, 0, 0), (.aload_n 2, 0, 0, 0)] = true := by decide +kernel
theorem k0L_law_389 : gAt (mL_law none) 389 [(.iload 5, 0, 0, 0), (.if_icmp .eq 5, 396, 0, 0), (.iconst 0, 0, 0, 0), (.ireturn, 0, 0, 0)] = true := by decide +kernel
theorem k0L_law_396 : gAt (mL_law none) 396 [(.iload 5, 0, 0, 0), (.ifCond .ne 15, 413, 0, 0), (.aload_n 3, 0, 0, 0), (.iconst 0, 0, 0, 0), (.laload, 0, 0, 0), (.iload 6, 0, 0, 0), (.i2l, 0, 0, 0), (.lcmp, 0, 0, 0), (.ifCond .eq 5, 413, 0, 0), (.iconst 0, 0, 0, 0), (.ireturn, 0, 0, 0)] = true := by decide +kernel
theorem k0L_law_413 : gAt (mL_law none) 413 [(.goto 2646, 3059, 0, 0)] = true := by decide +kernel
theorem k0L_law_416 : gAt (mL_law none) 416 [(.aload_n 1, 0, 0, 0), (.aload_n 0, 0, 0, 0), (.iload 4, 0, 0, 0), (.iconst 1, 0, 0, 0), (.iadd, 0, 0, 0)] = true := by decide +kernel
theorem k0L_law_423 : gAt (mL_law none) 423 [(.aload_n 3, 0, 0, 0)] = true := by decide +kernel
theorem k0L_law_427 : gAt (mL_law none) 427 [(.istore 5, 0, 0, 0), (.aload_n 2, 0, 0, 0), (.aload_n 0, 0, 0, 0), (.iload 4, 0, 0, 0), (.iconst 1, 0, 0, 0), (.iadd, 0, 0, 0)] = true := by decide +kernel
theorem k0L_law_439 : gAt (mL_law none) 439 [(.istore 6, 0, 0, 0), (.aload_n 2, 0, 0, 0)] = true := by decide +kernel
theorem k0L_law_445 : gAt (mL_law none) 445 [(.iload 5, 0, 0, 0), (.if_icmp .eq 5, 452, 0, 0), (.iconst 0, 0, 0, 0), (.ireturn, 0, 0, 0)] = true := by decide +kernel
theorem k0L_law_452 : gAt (mL_law none) 452 [(.iload 5, 0, 0, 0), (.ifCond .ne 15, 469, 0, 0), (.aload_n 3, 0, 0, 0), (.iconst 0, 0, 0, 0), (.laload, 0, 0, 0), (.iload 6, 0, 0, 0), (.i2l, 0, 0, 0), (.lcmp, 0, 0, 0), (.ifCond .eq 5, 469, 0, 0), (.iconst 0, 0, 0, 0), (.ireturn, 0, 0, 0)] = true := by decide +kernel
theorem k0L_law_469 : gAt (mL_law none) 469 [(.goto 2590, 3059, 0, 0)] = true := by decide +kernel
theorem k0L_law_472 : gAt (mL_law none) 472 [(.aload_n 1, 0, 0, 0)] = true := by decide +kernel
theorem k0L_law_476 : gAt (mL_law none) 476 [(.aload_n 2, 0, 0, 0)] = true := by decide +kernel
theorem k0L_law_480 : gAt (mL_law none) 480 [(.if_icmp .eq 2579, 3059, 0, 0), (.iconst 0, 0, 0, 0), (.ireturn, 0, 0, 0)] = true := by decide +kernel
theorem k0L_law_485 : gAt (mL_law none) 485 [(.aload_n 1, 0, 0, 0)] = true := by decide +kernel
theorem k0L_law_489 : gAt (mL_law none) 489 [(.aload_n 2, 0, 0, 0)] = true := by decide +kernel
theorem k0L_law_493 : gAt (mL_law none) 493 [(.if_icmp .eq 2566, 3059, 0, 0), (.iconst 0, 0, 0, 0), (.ireturn, 0, 0, 0)] = true := by decide +kernel
theorem k0L_law_498 : gAt (mL_law none) 498 [(.aload_n 1, 0, 0, 0)] = true := by decide +kernel
theorem k0L_law_502 : gAt (mL_law none) 502 [(.aload_n 2, 0, 0, 0)] = true := by decide +kernel
theorem k0L_law_506 : gAt (mL_law none) 506 [(.if_icmp .eq 2553, 3059, 0, 0), (.iconst 0, 0, 0, 0), (.ireturn, 0, 0, 0)] = true := by decide +kernel
theorem k0L_law_511 : gAt (mL_law none) 511 [(.aload_n 1, 0, 0, 0)] = true := by decide +kernel
theorem k0L_law_515 : gAt (mL_law none) 515 [(.aload_n 2, 0, 0, 0)] = true := by decide +kernel
theorem k0L_law_519 : gAt (mL_law none) 519 [(.if_icmp .eq 2540, 3059, 0, 0), (.iconst 0, 0, 0, 0), (.ireturn, 0, 0, 0)] = true := by decide +kernel
theorem k0L_law_524 : gAt (mL_law none) 524 [(.aload_n 1, 0, 0, 0)] = true := by decide +kernel
theorem k0L_law_528 : gAt (mL_law none) 528 [(.aload_n 2, 0, 0, 0)] = true := by decide +kernel
theorem k0L_law_532 : gAt (mL_law none) 532 [(.if_icmp .eq 2527, 3059, 0, 0), (.iconst 0, 0, 0, 0), (.ireturn, 0, 0, 0)] = true := by decide +kernel
theorem k0L_law_537 : gAt (mL_law none) 537 [(.aload_n 1, 0, 0, 0)] = true := by decide +kernel
theorem k0L_law_541 : gAt (mL_law none) 541 [(.aload_n 2, 0, 0, 0)] = true := by decide +kernel
theorem k0L_law_545 : gAt (mL_law none) 545 [(.if_icmp .eq 2514, 3059, 0, 0), (.iconst 0, 0, 0, 0), (.ireturn, 0, 0, 0)] = true := by decide +kernel
theorem k0L_law_550 : gAt (mL_law none) 550 [(.aload_n 1, 0, 0, 0)] = true := by decide +kernel
theorem k0L_law_554 : gAt (mL_law none) 554 [(.aload_n 2, 0, 0, 0)] = true := by decide +kernel
theorem k0L_law_558 : gAt (mL_law none) 558 [(.if_icmp .eq 2501, 3059, 0, 0), (.iconst 0, 0, 0, 0), (.ireturn, 0, 0, 0)] = true := by decide +kernel
theorem k0L_law_563 : gAt (mL_law none) 563 [(.aload_n 1, 0, 0, 0)] = true := by decide +kernel
theorem k0L_law_567 : gAt (mL_law none) 567 [(.aload_n 2, 0, 0, 0)] = true := by decide +kernel
theorem k0L_law_571 : gAt (mL_law none) 571 [(.if_icmp .eq 2488, 3059, 0, 0), (.iconst 0, 0, 0, 0), (.ireturn, 0, 0, 0)] = true := by decide +kernel
theorem k0L_law_576 : gAt (mL_law none) 576 [(.aload_n 1, 0, 0, 0)] = true := by decide +kernel
theorem k0L_law_580 : gAt (mL_law none) 580 [(.aload_n 2, 0, 0, 0)] = true := by decide +kernel
theorem k0L_law_584 : gAt (mL_law none) 584 [(.if_icmp .eq 2475, 3059, 0, 0), (.iconst 0, 0, 0, 0), (.ireturn, 0, 0, 0)] = true := by decide +kernel
theorem k0L_law_589 : gAt (mL_law none) 589 [(.aload_n 1, 0, 0, 0), (.aload_n 0, 0, 0, 0), (.iload 4, 0, 0, 0), (.iconst 1, 0, 0, 0), (.iadd, 0, 0, 0)] = true := by decide +kernel
theorem k0L_law_596 : gAt (mL_law none) 596 [(.aload_n 3, 0, 0, 0)] = true := by decide +kernel
theorem k0L_law_600 : gAt (mL_law none) 600 [(.istore 5, 0, 0, 0), (.aload_n 2, 0, 0, 0), (.aload_n 0, 0, 0, 0), (.iload 4, 0, 0, 0), (.iconst 1, 0, 0, 0), (.iadd, 0, 0, 0)] = true := by decide +kernel
theorem k0L_law_612 : gAt (mL_law none) 612 [(.istore 6, 0, 0, 0), (.aload_n 2, 0, 0, 0)] = true := by decide +kernel
theorem k0L_law_618 : gAt (mL_law none) 618 [(.iload 5, 0, 0, 0), (.if_icmp .eq 5, 625, 0, 0), (.iconst 0, 0, 0, 0), (.ireturn, 0, 0, 0)] = true := by decide +kernel
theorem k0L_law_625 : gAt (mL_law none) 625 [(.iload 5, 0, 0, 0), (.ifCond .ne 15, 642, 0, 0), (.aload_n 3, 0, 0, 0), (.iconst 0, 0, 0, 0), (.laload, 0, 0, 0), (.iload 6, 0, 0, 0), (.i2l, 0, 0, 0), (.lcmp, 0, 0, 0), (.ifCond .eq 5, 642, 0, 0), (.iconst 0, 0, 0, 0), (.ireturn, 0, 0, 0)] = true := by decide +kernel
theorem k0L_law_642 : gAt (mL_law none) 642 [(.goto 2417, 3059, 0, 0)] = true := by decide +kernel
theorem k0L_law_645 : gAt (mL_law none) 645 [(.aload_n 1, 0, 0, 0), (.aload_n 0, 0, 0, 0), (.iload 4, 0, 0, 0), (.iconst 1, 0, 0, 0), (.iadd, 0, 0, 0)] = true := by decide +kernel
theorem k0L_law_652 : gAt (mL_law none) 652 [(.aload_n 3, 0, 0, 0)] = true := by decide +kernel
theorem k0L_law_656 : gAt (mL_law none) 656 [(.istore 5, 0, 0, 0), (.aload_n 2, 0, 0, 0), (.aload_n 0, 0, 0, 0), (.iload 4, 0, 0, 0), (.iconst 1, 0, 0, 0), (.iadd, 0, 0, 0)] = true := by decide +kernel
theorem k0L_law_668 : gAt (mL_law none) 668 [(.istore 6, 0, 0, 0), (.aload_n 2, 0, 0, 0)] = true := by decide +kernel
theorem k0L_law_674 : gAt (mL_law none) 674 [(.iload 5, 0, 0, 0), (.if_icmp .eq 5, 681, 0, 0), (.iconst 0, 0, 0, 0), (.ireturn, 0, 0, 0)] = true := by decide +kernel
theorem k0L_law_681 : gAt (mL_law none) 681 [(.iload 5, 0, 0, 0), (.ifCond .ne 15, 698, 0, 0), (.aload_n 3, 0, 0, 0), (.iconst 0, 0, 0, 0), (.laload, 0, 0, 0), (.iload 6, 0, 0, 0), (.i2l, 0, 0, 0), (.lcmp, 0, 0, 0), (.ifCond .eq 5, 698, 0, 0), (.iconst 0, 0, 0, 0), (.ireturn, 0, 0, 0)] = true := by decide +kernel
theorem k0L_law_698 : gAt (mL_law none) 698 [(.goto 2361, 3059, 0, 0)] = true := by decide +kernel
theorem k0L_law_701 : gAt (mL_law none) 701 [(.aload_n 1, 0, 0, 0), (.aload_n 0, 0, 0, 0), (.iload 4, 0, 0, 0), (.iconst 1, 0, 0, 0), (.iadd, 0, 0, 0)] = true := by decide +kernel
theorem k0L_law_708 : gAt (mL_law none) 708 [(.aload_n 3, 0, 0, 0)] = true := by decide +kernel
theorem k0L_law_712 : gAt (mL_law none) 712 [(.istore 5, 0, 0, 0), (.aload_n 2, 0, 0, 0), (.aload_n 0, 0, 0, 0), (.iload 4, 0, 0, 0), (.iconst 1, 0, 0, 0), (.iadd, 0, 0, 0)] = true := by decide +kernel
theorem k0L_law_724 : gAt (mL_law none) 724 [(.istore 6, 0, 0, 0), (.aload_n 2, 0, 0, 0)] = true := by decide +kernel
theorem k0L_law_730 : gAt (mL_law none) 730 [(.iload 5, 0, 0, 0), (.if_icmp .eq 5, 737, 0, 0), (.iconst 0, 0, 0, 0), (.ireturn, 0, 0, 0)] = true := by decide +kernel
theorem k0L_law_737 : gAt (mL_law none) 737 [(.iload 5, 0, 0, 0), (.ifCond .ne 15, 754, 0, 0), (.aload_n 3, 0, 0, 0), (.iconst 0, 0, 0, 0), (.laload, 0, 0, 0), (.iload 6, 0, 0, 0), (.i2l, 0, 0, 0), (.lcmp, 0, 0, 0), (.ifCond .eq 5, 754, 0, 0), (.iconst 0, 0, 0, 0), (.ireturn, 0, 0, 0)] = true := by decide +kernel
theorem k0L_law_754 : gAt (mL_law none) 754 [(.goto 2305, 3059, 0, 0)] = true := by decide +kernel
theorem k0L_law_757 : gAt (mL_law none) 757 [(.aload_n 1, 0, 0, 0), (.aload_n 0, 0, 0, 0), (.iload 4, 0, 0, 0), (.iconst 1, 0, 0, 0), (.iadd, 0, 0, 0)] = true := by decide +kernel
theorem k0L_law_764 : gAt (mL_law none) 764 [(.aload_n 3, 0, 0, 0)] = true := by decide +kernel
theorem k0L_law_768 : gAt (mL_law none) 768 [(.istore 5, 0, 0, 0), (.aload_n 2, 0, 0, 0), (.aload_n 0, 0, 0, 0), (.iload 4, 0, 0, 0), (.iconst 1, 0, 0, 0), (.iadd, 0, 0, 0)] = true := by decide +kernel
theorem k0L_law_780 : gAt (mL_law none) 780 [(.istore 6, 0, 0, 0), (.aload_n 2, 0, 0, 0)] = true := by decide +kernel
theorem k0L_law_786 : gAt (mL_law none) 786 [(.iload 5, 0, 0, 0), (.if_icmp .eq 5, 793, 0, 0), (.iconst 0, 0, 0, 0), (.ireturn, 0, 0, 0)] = true := by decide +kernel
theorem k0L_law_793 : gAt (mL_law none) 793 [(.iload 5, 0, 0, 0), (.ifCond .ne 15, 810, 0, 0), (.aload_n 3, 0, 0, 0), (.iconst 0, 0, 0, 0), (.laload, 0, 0, 0), (.iload 6, 0, 0, 0), (.i2l, 0, 0, 0), (.lcmp, 0, 0, 0), (.ifCond .eq 5, 810, 0, 0), (.iconst 0, 0, 0, 0), (.ireturn, 0, 0, 0)] = true := by decide +kernel
theorem k0L_law_810 : gAt (mL_law none) 810 [(.goto 2249, 3059, 0, 0)] = true := by decide +kernel
theorem k0L_law_813 : gAt (mL_law none) 813 [(.aload_n 1, 0, 0, 0)] = true := by decide +kernel
theorem k0L_law_817 : gAt (mL_law none) 817 [(.aload_n 2, 0, 0, 0)] = true := by decide +kernel
theorem k0L_law_821 : gAt (mL_law none) 821 [(.if_icmp .eq 2238, 3059, 0, 0), (.iconst 0, 0, 0, 0), (.ireturn, 0, 0, 0)] = true := by decide +kernel
theorem k0L_law_826 : gAt (mL_law none) 826 [(.aload_n 1, 0, 0, 0), (.aload_n 0, 0, 0, 0), (.iload 4, 0, 0, 0), (.iconst 1, 0, 0, 0), (.iadd, 0, 0, 0)] = true := by decide +kernel
theorem k0L_law_833 : gAt (mL_law none) 833 [(.aload_n 3, 0, 0, 0)] = true := by decide +kernel
theorem k0L_law_837 : gAt (mL_law none) 837 [(.istore 5, 0, 0, 0), (.aload_n 2, 0, 0, 0), (.aload_n 0, 0, 0, 0), (.iload 4, 0, 0, 0), (.iconst 1, 0, 0, 0), (.iadd, 0, 0, 0)] = true := by decide +kernel
theorem k0L_law_849 : gAt (mL_law none) 849 [(.istore 6, 0, 0, 0), (.aload_n 2, 0, 0, 0)] = true := by decide +kernel
theorem k0L_law_855 : gAt (mL_law none) 855 [(.iload 5, 0, 0, 0), (.if_icmp .eq 5, 862, 0, 0), (.iconst 0, 0, 0, 0), (.ireturn, 0, 0, 0)] = true := by decide +kernel
theorem k0L_law_862 : gAt (mL_law none) 862 [(.iload 5, 0, 0, 0), (.ifCond .ne 15, 879, 0, 0), (.aload_n 3, 0, 0, 0), (.iconst 0, 0, 0, 0), (.laload, 0, 0, 0), (.iload 6, 0, 0, 0), (.i2l, 0, 0, 0), (.lcmp, 0, 0, 0), (.ifCond .eq 5, 879, 0, 0), (.iconst 0, 0, 0, 0), (.ireturn, 0, 0, 0)] = true := by decide +kernel
theorem k0L_law_879 : gAt (mL_law none) 879 [(.goto 2180, 3059, 0, 0)] = true := by decide +kernel
theorem k0L_law_882 : gAt (mL_law none) 882 [(.aload_n 1, 0, 0, 0), (.aload_n 0, 0, 0, 0), (.iload 4, 0, 0, 0), (.iconst 1, 0, 0, 0), (.iadd, 0, 0, 0)] = true := by decide +kernel
theorem k0L_law_889 : gAt (mL_law none) 889 [(.aload_n 3, 0, 0, 0)] = true := by decide +kernel
theorem k0L_law_893 : gAt (mL_law none) 893 [(.istore 5, 0, 0, 0), (.aload_n 2, 0, 0, 0), (.aload_n 0, 0, 0, 0), (.iload 4, 0, 0, 0), (.iconst 1, 0, 0, 0), (.iadd, 0, 0, 0)] = true := by decide +kernel
theorem k0L_law_905 : gAt (mL_law none) 905 [(.istore 6, 0, 0, 0), (.aload_n 2, 0, 0, 0)] = true := by decide +kernel
theorem k0L_law_911 : gAt (mL_law none) 911 [(.iload 5, 0, 0, 0), (.if_icmp .eq 5, 918, 0, 0), (.iconst 0, 0, 0, 0), (.ireturn, 0, 0, 0)] = true := by decide +kernel
theorem k0L_law_918 : gAt (mL_law none) 918 [(.iload 5, 0, 0, 0), (.ifCond .ne 15, 935, 0, 0), (.aload_n 3, 0, 0, 0), (.iconst 0, 0, 0, 0), (.laload, 0, 0, 0), (.iload 6, 0, 0, 0), (.i2l, 0, 0, 0), (.lcmp, 0, 0, 0), (.ifCond .eq 5, 935, 0, 0), (.iconst 0, 0, 0, 0), (.ireturn, 0, 0, 0)] = true := by decide +kernel
theorem k0L_law_935 : gAt (mL_law none) 935 [(.goto 2124, 3059, 0, 0)] = true := by decide +kernel
theorem k0L_law_938 : gAt (mL_law none) 938 [(.aload_n 1, 0, 0, 0), (.aload_n 0, 0, 0, 0), (.iload 4, 0, 0, 0), (.iconst 1, 0, 0, 0), (.iadd, 0, 0, 0)] = true := by decide +kernel
theorem k0L_law_945 : gAt (mL_law none) 945 [(.aload_n 3, 0, 0, 0)] = true := by decide +kernel
theorem k0L_law_949 : gAt (mL_law none) 949 [(.istore 5, 0, 0, 0), (.aload_n 2, 0, 0, 0), (.aload_n 0, 0, 0, 0), (.iload 4, 0, 0, 0), (.iconst 1, 0, 0, 0), (.iadd, 0, 0, 0)] = true := by decide +kernel
theorem k0L_law_961 : gAt (mL_law none) 961 [(.istore 6, 0, 0, 0), (.aload_n 2, 0, 0, 0)] = true := by decide +kernel
theorem k0L_law_967 : gAt (mL_law none) 967 [(.iload 5, 0, 0, 0), (.if_icmp .eq 5, 974, 0, 0), (.iconst 0, 0, 0, 0), (.ireturn, 0, 0, 0)] = true := by decide +kernel
theorem k0L_law_974 : gAt (mL_law none) 974 [(.iload 5, 0, 0, 0), (.ifCond .ne 15, 991, 0, 0), (.aload_n 3, 0, 0, 0), (.iconst 0, 0, 0, 0), (.laload, 0, 0, 0), (.iload 6, 0, 0, 0), (.i2l, 0, 0, 0), (.lcmp, 0, 0, 0), (.ifCond .eq 5, 991, 0, 0), (.iconst 0, 0, 0, 0), (.ireturn, 0, 0, 0)] = true := by decide +kernel
theorem k0L_law_991 : gAt (mL_law none) 991 [(.goto 2068, 3059, 0, 0)] = true := by decide +kernel
theorem k0L_law_994 : gAt (mL_law none) 994 [(.aload_n 1, 0, 0, 0), (.aload_n 0, 0, 0, 0), (.iload 4, 0, 0, 0), (.iconst 1, 0, 0, 0), (.iadd, 0, 0, 0)] = true := by decide +kernel
theorem k0L_law_1001 : gAt (mL_law none) 1001 [(.aload_n 3, 0, 0, 0)] = true := by decide +kernel
theorem k0L_law_1005 : gAt (mL_law none) 1005 [(.istore 5, 0, 0, 0), (.aload_n 2, 0, 0, 0), (.aload_n 0, 0, 0, 0), (.iload 4, 0, 0, 0), (.iconst 1, 0, 0, 0), (.iadd, 0, 0, 0)] = true := by decide +kernel
theorem k0L_law_1017 : gAt (mL_law none) 1017 [(.istore 6, 0, 0, 0), (.aload_n 2, 0, 0, 0)] = true := by decide +kernel
theorem k0L_law_1023 : gAt (mL_law none) 1023 [(.iload 5, 0, 0, 0), (.if_icmp .eq 5, 1030, 0, 0), (.iconst 0, 0, 0, 0), (.ireturn, 0, 0, 0)] = true := by decide +kernel
theorem k0L_law_1030 : gAt (mL_law none) 1030 [(.iload 5, 0, 0, 0), (.ifCond .ne 15, 1047, 0, 0), (.aload_n 3, 0, 0, 0), (.iconst 0, 0, 0, 0), (.laload, 0, 0, 0), (.iload 6, 0, 0, 0), (.i2l, 0, 0, 0), (.lcmp, 0, 0, 0), (.ifCond .eq 5, 1047, 0, 0), (.iconst 0, 0, 0, 0), (.ireturn, 0, 0, 0)] = true := by decide +kernel
theorem k0L_law_1047 : gAt (mL_law none) 1047 [(.goto 2012, 3059, 0, 0)] = true := by decide +kernel
theorem k0L_law_1050 : gAt (mL_law none) 1050 [(.aload_n 1, 0, 0, 0), (.aload_n 0, 0, 0, 0), (.iload 4, 0, 0, 0), (.iconst 1, 0, 0, 0), (.iadd, 0, 0, 0)] = true := by decide +kernel
theorem k0L_law_1057 : gAt (mL_law none) 1057 [(.aload_n 3, 0, 0, 0)] = true := by decide +kernel
theorem k0L_law_1061 : gAt (mL_law none) 1061 [(.istore 5, 0, 0, 0), (.aload_n 2, 0, 0, 0), (.aload_n 0, 0, 0, 0), (.iload 4, 0, 0, 0), (.iconst 1, 0, 0, 0), (.iadd, 0, 0, 0)] = true := by decide +kernel
theorem k0L_law_1073 : gAt (mL_law none) 1073 [(.istore 6, 0, 0, 0), (.aload_n 2, 0, 0, 0)] = true := by decide +kernel
theorem k0L_law_1079 : gAt (mL_law none) 1079 [(.iload 5, 0, 0, 0), (.if_icmp .eq 5, 1086, 0, 0), (.iconst 0, 0, 0, 0), (.ireturn, 0, 0, 0)] = true := by decide +kernel
theorem k0L_law_1086 : gAt (mL_law none) 1086 [(.iload 5, 0, 0, 0), (.ifCond .ne 15, 1103, 0, 0), (.aload_n 3, 0, 0, 0), (.iconst 0, 0, 0, 0), (.laload, 0, 0, 0), (.iload 6, 0, 0, 0), (.i2l, 0, 0, 0), (.lcmp, 0, 0, 0), (.ifCond .eq 5, 1103, 0, 0), (.iconst 0, 0, 0, 0), (.ireturn, 0, 0, 0)] = true := by decide +kernel
theorem k0L_law_1103 : gAt (mL_law none) 1103 [(.goto 1956, 3059, 0, 0)] = true := by decide +kernel
theorem k0L_law_1106 : gAt (mL_law none) 1106 [(.aload_n 1, 0, 0, 0), (.aload_n 0, 0, 0, 0), (.iload 4, 0, 0, 0), (.iconst 1, 0, 0, 0), (.iadd, 0, 0, 0)] = true := by decide +kernel
theorem k0L_law_1113 : gAt (mL_law none) 1113 [(.aload_n 3, 0, 0, 0)] = true := by decide +kernel
theorem k0L_law_1117 : gAt (mL_law none) 1117 [(.istore 5, 0, 0, 0), (.aload_n 2, 0, 0, 0), (.aload_n 0, 0, 0, 0), (.iload 4, 0, 0, 0), (.iconst 1, 0, 0, 0), (.iadd, 0, 0, 0)] = true := by decide +kernel
theorem k0L_law_1129 : gAt (mL_law none) 1129 [(.istore 6, 0, 0, 0), (.aload_n 2, 0, 0, 0)] = true := by decide +kernel
theorem k0L_law_1135 : gAt (mL_law none) 1135 [(.iload 5, 0, 0, 0), (.if_icmp .eq 5, 1142, 0, 0), (.iconst 0, 0, 0, 0), (.ireturn, 0, 0, 0)] = true := by decide +kernel
theorem k0L_law_1142 : gAt (mL_law none) 1142 [(.iload 5, 0, 0, 0), (.ifCond .ne 15, 1159, 0, 0), (.aload_n 3, 0, 0, 0), (.iconst 0, 0, 0, 0), (.laload, 0, 0, 0), (.iload 6, 0, 0, 0), (.i2l, 0, 0, 0), (.lcmp, 0, 0, 0), (.ifCond .eq 5, 1159, 0, 0), (.iconst 0, 0, 0, 0), (.ireturn, 0, 0, 0)] = true := by decide +kernel
theorem k0L_law_1159 : gAt (mL_law none) 1159 [(.goto 1900, 3059, 0, 0)] = true := by decide +kernel
theorem k0L_law_1162 : gAt (mL_law none) 1162 [(.aload_n 1, 0, 0, 0), (.aload_n 0, 0, 0, 0), (.iload 4, 0, 0, 0), (.iconst 1, 0, 0, 0), (.iadd, 0, 0, 0)] = true := by decide +kernel
theorem k0L_law_1169 : gAt (mL_law none) 1169 [(.aload_n 3, 0, 0, 0)] = true := by decide +kernel
theorem k0L_law_1173 : gAt (mL_law none) 1173 [(.istore 5, 0, 0, 0), (.aload_n 2, 0, 0, 0), (.aload_n 0, 0, 0, 0), (.iload 4, 0, 0, 0), (.iconst 1, 0, 0, 0), (.iadd, 0, 0, 0)] = true := by decide +kernel
theorem k0L_law_1185 : gAt (mL_law none) 1185 [(.istore 6, 0, 0, 0), (.aload_n 2, 0, 0, 0)] = true := by decide +kernel
theorem k0L_law_1191 : gAt (mL_law none) 1191 [(.iload 5, 0, 0, 0), (.if_icmp .eq 5, 1198, 0, 0), (.iconst 0, 0, 0, 0), (.ireturn, 0, 0, 0)] = true := by decide +kernel
theorem k0L_law_1198 : gAt (mL_law none) 1198 [(.iload 5, 0, 0, 0), (.ifCond .ne 15, 1215, 0, 0), (.aload_n 3, 0, 0, 0), (.iconst 0, 0, 0, 0), (.laload, 0, 0, 0), (.iload 6, 0, 0, 0), (.i2l, 0, 0, 0), (.lcmp, 0, 0, 0), (.ifCond .eq 5, 1215, 0, 0), (.iconst 0, 0, 0, 0), (.ireturn, 0, 0, 0)] = true := by decide +kernel
theorem k0L_law_1215 : gAt (mL_law none) 1215 [(.goto 1844, 3059, 0, 0)] = true := by decide +kernel
theorem k0L_law_1218 : gAt (mL_law none) 1218 [(.aload_n 1, 0, 0, 0), (.aload_n 0, 0, 0, 0), (.iload 4, 0, 0, 0), (.iconst 1, 0, 0, 0), (.iadd, 0, 0, 0)] = true := by decide +kernel
theorem k0L_law_1225 : gAt (mL_law none) 1225 [(.aload_n 3, 0, 0, 0)] = true := by decide +kernel
theorem k0L_law_1229 : gAt (mL_law none) 1229 [(.istore 5, 0, 0, 0), (.aload_n 2, 0, 0, 0), (.aload_n 0, 0, 0, 0), (.iload 4, 0, 0, 0), (.iconst 1, 0, 0, 0), (.iadd, 0, 0, 0)] = true := by decide +kernel
theorem k0L_law_1241 : gAt (mL_law none) 1241 [(.istore 6, 0, 0, 0), (.aload_n 2, 0, 0, 0)] = true := by decide +kernel
theorem k0L_law_1247 : gAt (mL_law none) 1247 [(.iload 5, 0, 0, 0), (.if_icmp .eq 5, 1254, 0, 0), (.iconst 0, 0, 0, 0), (.ireturn, 0, 0, 0)] = true := by decide +kernel
theorem k0L_law_1254 : gAt (mL_law none) 1254 [(.iload 5, 0, 0, 0), (.ifCond .ne 15, 1271, 0, 0), (.aload_n 3, 0, 0, 0), (.iconst 0, 0, 0, 0), (.laload, 0, 0, 0), (.iload 6, 0, 0, 0), (.i2l, 0, 0, 0), (.lcmp, 0, 0, 0), (.ifCond .eq 5, 1271, 0, 0), (.iconst 0, 0, 0, 0), (.ireturn, 0, 0, 0)] = true := by decide +kernel
theorem k0L_law_1271 : gAt (mL_law none) 1271 [(.goto 1788, 3059, 0, 0)] = true := by decide +kernel
theorem k0L_law_1274 : gAt (mL_law none) 1274 [(.aload_n 1, 0, 0, 0), (.aload_n 0, 0, 0, 0), (.iload 4, 0, 0, 0), (.iconst 1, 0, 0, 0), (.iadd, 0, 0, 0)] = true := by decide +kernel
theorem k0L_law_1281 : gAt (mL_law none) 1281 [(.aload_n 3, 0, 0, 0)] = true := by decide +kernel
theorem k0L_law_1285 : gAt (mL_law none) 1285 [(.istore 5, 0, 0, 0), (.aload_n 2, 0, 0, 0), (.aload_n 0, 0, 0, 0), (.iload 4, 0, 0, 0), (.iconst 1, 0, 0, 0), (.iadd, 0, 0, 0)] = true := by decide +kernel
theorem k0L_law_1297 : gAt (mL_law none) 1297 [(.istore 6, 0, 0, 0), (.aload_n 2, 0, 0, 0)] = true := by decide +kernel
theorem k0L_law_1303 : gAt (mL_law none) 1303 [(.iload 5, 0, 0, 0), (.if_icmp .eq 5, 1310, 0, 0), (.iconst 0, 0, 0, 0), (.ireturn, 0, 0, 0)] = true := by decide +kernel
theorem k0L_law_1310 : gAt (mL_law none) 1310 [(.iload 5, 0, 0, 0), (.ifCond .ne 15, 1327, 0, 0), (.aload_n 3, 0, 0, 0), (.iconst 0, 0, 0, 0), (.laload, 0, 0, 0), (.iload 6, 0, 0, 0), (.i2l, 0, 0, 0), (.lcmp, 0, 0, 0), (.ifCond .eq 5, 1327, 0, 0), (.iconst 0, 0, 0, 0), (.ireturn, 0, 0, 0)] = true := by decide +kernel
theorem k0L_law_1327 : gAt (mL_law none) 1327 [(.goto 1732, 3059, 0, 0)] = true := by decide +kernel
theorem k0L_law_1330 : gAt (mL_law none) 1330 [(.aload_n 1, 0, 0, 0), (.aload_n 0, 0, 0, 0), (.iload 4, 0, 0, 0), (.iconst 1, 0, 0, 0), (.iadd, 0, 0, 0)] = true := by decide +kernel
theorem k0L_law_1337 : gAt (mL_law none) 1337 [(.aload_n 3, 0, 0, 0)] = true := by decide +kernel
theorem k0L_law_1341 : gAt (mL_law none) 1341 [(.istore 5, 0, 0, 0), (.aload_n 2, 0, 0, 0), (.aload_n 0, 0, 0, 0), (.iload 4, 0, 0, 0), (.iconst 1, 0, 0, 0), (.iadd, 0, 0, 0)] = true := by decide +kernel
theorem k0L_law_1353 : gAt (mL_law none) 1353 [(.istore 6, 0, 0, 0), (.aload_n 2, 0, 0, 0)] = true := by decide +kernel
theorem k0L_law_1359 : gAt (mL_law none) 1359 [(.iload 5, 0, 0, 0), (.if_icmp .eq 5, 1366, 0, 0), (.iconst 0, 0, 0, 0), (.ireturn, 0, 0, 0)] = true := by decide +kernel
theorem k0L_law_1366 : gAt (mL_law none) 1366 [(.iload 5, 0, 0, 0), (.ifCond .ne 15, 1383, 0, 0), (.aload_n 3, 0, 0, 0), (.iconst 0, 0, 0, 0), (.laload, 0, 0, 0), (.iload 6, 0, 0, 0), (.i2l, 0, 0, 0), (.lcmp, 0, 0, 0), (.ifCond .eq 5, 1383, 0, 0), (.iconst 0, 0, 0, 0), (.ireturn, 0, 0, 0)] = true := by decide +kernel
theorem k0L_law_1383 : gAt (mL_law none) 1383 [(.goto 1676, 3059, 0, 0)] = true := by decide +kernel
theorem k0L_law_1386 : gAt (mL_law none) 1386 [(.aload_n 1, 0, 0, 0), (.aload_n 0, 0, 0, 0), (.iload 4, 0, 0, 0), (.iconst 1, 0, 0, 0), (.iadd, 0, 0, 0)] = true := by decide +kernel
theorem k0L_law_1393 : gAt (mL_law none) 1393 [(.aload_n 3, 0, 0, 0)] = true := by decide +kernel
theorem k0L_law_1397 : gAt (mL_law none) 1397 [(.istore 5, 0, 0, 0), (.aload_n 2, 0, 0, 0), (.aload_n 0, 0, 0, 0), (.iload 4, 0, 0, 0), (.iconst 1, 0, 0, 0), (.iadd, 0, 0, 0)] = true := by decide +kernel
theorem k0L_law_1409 : gAt (mL_law none) 1409 [(.istore 6, 0, 0, 0), (.aload_n 2, 0, 0, 0)] = true := by decide +kernel
theorem k0L_law_1415 : gAt (mL_law none) 1415 [(.iload 5, 0, 0, 0), (.if_icmp .eq 5, 1422, 0, 0), (.iconst 0, 0, 0, 0), (.ireturn, 0, 0, 0)] = true := by decide +kernel
theorem k0L_law_1422 : gAt (mL_law none) 1422 [(.iload 5, 0, 0, 0), (.ifCond .ne 15, 1439, 0, 0), (.aload_n 3, 0, 0, 0), (.iconst 0, 0, 0, 0), (.laload, 0, 0, 0), (.iload 6, 0, 0, 0), (.i2l, 0, 0, 0), (.lcmp, 0, 0, 0), (.ifCond .eq 5, 1439, 0, 0), (.iconst 0, 0, 0, 0), (.ireturn, 0, 0, 0)] = true := by decide +kernel
theorem k0L_law_1439 : gAt (mL_law none) 1439 [(.goto 1620, 3059, 0, 0)] = true := by decide +kernel
theorem k0L_law_1442 : gAt (mL_law none) 1442 [(.aload_n 1, 0, 0, 0)] = true := by decide +kernel
theorem k0L_law_1446 : gAt (mL_law none) 1446 [(.aload_n 2, 0, 0, 0)] = true := by decide +kernel
theorem k0L_law_1450 : gAt (mL_law none) 1450 [(.if_icmp .eq 1609, 3059, 0, 0), (.iconst 0, 0, 0, 0), (.ireturn, 0, 0, 0)] = true := by decide +kernel
theorem k0L_law_1455 : gAt (mL_law none) 1455 [(.aload_n 1, 0, 0, 0)] = true := by decide +kernel
theorem k0L_law_1459 : gAt (mL_law none) 1459 [(.aload_n 2, 0, 0, 0)] = true := by decide +kernel
theorem k0L_law_1463 : gAt (mL_law none) 1463 [(.if_icmp .eq 1596, 3059, 0, 0), (.iconst 0, 0, 0, 0), (.ireturn, 0, 0, 0)] = true := by decide +kernel
theorem k0L_law_1468 : gAt (mL_law none) 1468 [(.aload_n 1, 0, 0, 0)] = true := by decide +kernel
theorem k0L_law_1472 : gAt (mL_law none) 1472 [(.aload_n 2, 0, 0, 0)] = true := by decide +kernel
theorem k0L_law_1476 : gAt (mL_law none) 1476 [(.if_icmp .eq 1583, 3059, 0, 0), (.iconst 0, 0, 0, 0), (.ireturn, 0, 0, 0)] = true := by decide +kernel
theorem k0L_law_1481 : gAt (mL_law none) 1481 [(.aload_n 1, 0, 0, 0)] = true := by decide +kernel
theorem k0L_law_1485 : gAt (mL_law none) 1485 [(.aload_n 2, 0, 0, 0)] = true := by decide +kernel
theorem k0L_law_1489 : gAt (mL_law none) 1489 [(.if_icmp .eq 1570, 3059, 0, 0), (.iconst 0, 0, 0, 0), (.ireturn, 0, 0, 0)] = true := by decide +kernel
theorem k0L_law_1494 : gAt (mL_law none) 1494 [(.aload_n 1, 0, 0, 0)] = true := by decide +kernel
theorem k0L_law_1498 : gAt (mL_law none) 1498 [(.aload_n 2, 0, 0, 0)] = true := by decide +kernel
theorem k0L_law_1502 : gAt (mL_law none) 1502 [(.if_icmp .eq 1557, 3059, 0, 0), (.iconst 0, 0, 0, 0), (.ireturn, 0, 0, 0)] = true := by decide +kernel
theorem k0L_law_1507 : gAt (mL_law none) 1507 [(.aload_n 1, 0, 0, 0), (.aload_n 0, 0, 0, 0), (.iload 4, 0, 0, 0), (.iconst 1, 0, 0, 0), (.iadd, 0, 0, 0)] = true := by decide +kernel
theorem k0L_law_1514 : gAt (mL_law none) 1514 [(.aload_n 3, 0, 0, 0)] = true := by decide +kernel
theorem k0L_law_1518 : gAt (mL_law none) 1518 [(.istore 5, 0, 0, 0), (.aload_n 2, 0, 0, 0), (.aload_n 0, 0, 0, 0), (.iload 4, 0, 0, 0), (.iconst 1, 0, 0, 0), (.iadd, 0, 0, 0)] = true := by decide +kernel
theorem k0L_law_1530 : gAt (mL_law none) 1530 [(.istore 6, 0, 0, 0), (.aload_n 2, 0, 0, 0)] = true := by decide +kernel
theorem k0L_law_1536 : gAt (mL_law none) 1536 [(.iload 5, 0, 0, 0), (.if_icmp .eq 5, 1543, 0, 0), (.iconst 0, 0, 0, 0), (.ireturn, 0, 0, 0)] = true := by decide +kernel
theorem k0L_law_1543 : gAt (mL_law none) 1543 [(.iload 5, 0, 0, 0), (.ifCond .ne 15, 1560, 0, 0), (.aload_n 3, 0, 0, 0), (.iconst 0, 0, 0, 0), (.laload, 0, 0, 0), (.iload 6, 0, 0, 0), (.i2l, 0, 0, 0), (.lcmp, 0, 0, 0), (.ifCond .eq 5, 1560, 0, 0), (.iconst 0, 0, 0, 0), (.ireturn, 0, 0, 0)] = true := by decide +kernel
theorem k0L_law_1560 : gAt (mL_law none) 1560 [(.goto 1499, 3059, 0, 0)] = true := by decide +kernel
theorem k0L_law_1563 : gAt (mL_law none) 1563 [(.aload_n 1, 0, 0, 0)] = true := by decide +kernel
theorem k0L_law_1567 : gAt (mL_law none) 1567 [(.aload_n 2, 0, 0, 0)] = true := by decide +kernel
theorem k0L_law_1571 : gAt (mL_law none) 1571 [(.if_icmp .eq 1488, 3059, 0, 0), (.iconst 0, 0, 0, 0), (.ireturn, 0, 0, 0)] = true := by decide +kernel
theorem k0L_law_1576 : gAt (mL_law none) 1576 [(.aload_n 1, 0, 0, 0), (.aload_n 0, 0, 0, 0), (.iload 4, 0, 0, 0), (.iconst 1, 0, 0, 0), (.iadd, 0, 0, 0)] = true := by decide +kernel
theorem k0L_law_1583 : gAt (mL_law none) 1583 [(.aload_n 3, 0, 0, 0)] = true := by decide +kernel
theorem k0L_law_1587 : gAt (mL_law none) 1587 [(.istore 5, 0, 0, 0), (.aload_n 2, 0, 0, 0), (.aload_n 0, 0, 0, 0), (.iload 4, 0, 0, 0), (.iconst 1, 0, 0, 0), (.iadd, 0, 0, 0)] = true := by decide +kernel
theorem k0L_law_1599 : gAt (mL_law none) 1599 [(.istore 6, 0, 0, 0), (.aload_n 2, 0, 0, 0)] = true := by decide +kernel
theorem k0L_law_1605 : gAt (mL_law none) 1605 [(.iload 5, 0, 0, 0), (.if_icmp .eq 5, 1612, 0, 0), (.iconst 0, 0, 0, 0), (.ireturn, 0, 0, 0)] = true := by decide +kernel
theorem k0L_law_1612 : gAt (mL_law none) 1612 [(.iload 5, 0, 0, 0), (.ifCond .ne 15, 1629, 0, 0), (.aload_n 3, 0, 0, 0), (.iconst 0, 0, 0, 0), (.laload, 0, 0, 0), (.iload 6, 0, 0, 0), (.i2l, 0, 0, 0), (.lcmp, 0, 0, 0), (.ifCond .eq 5, 1629, 0, 0), (.iconst 0, 0, 0, 0), (.ireturn, 0, 0, 0)] = true := by decide +kernel
theorem k0L_law_1629 : gAt (mL_law none) 1629 [(.goto 1430, 3059, 0, 0)] = true := by decide +kernel
theorem k0L_law_1632 : gAt (mL_law none) 1632 [(.aload_n 1, 0, 0, 0), (.aload_n 0, 0, 0, 0), (.iload 4, 0, 0, 0), (.iconst 1, 0, 0, 0), (.iadd, 0, 0, 0)] = true := by decide +kernel
theorem k0L_law_1639 : gAt (mL_law none) 1639 [(.aload_n 3, 0, 0, 0)] = true := by decide +kernel
theorem k0L_law_1643 : gAt (mL_law none) 1643 [(.istore 5, 0, 0, 0), (.aload_n 2, 0, 0, 0), (.aload_n 0, 0, 0, 0), (.iload 4, 0, 0, 0), (.iconst 1, 0, 0, 0), (.iadd, 0, 0, 0)] = true := by decide +kernel
theorem k0L_law_1655 : gAt (mL_law none) 1655 [(.istore 6, 0, 0, 0), (.aload_n 2, 0, 0, 0)] = true := by decide +kernel
theorem k0L_law_1661 : gAt (mL_law none) 1661 [(.iload 5, 0, 0, 0), (.if_icmp .eq 5, 1668, 0, 0), (.iconst 0, 0, 0, 0), (.ireturn, 0, 0, 0)] = true := by decide +kernel
theorem k0L_law_1668 : gAt (mL_law none) 1668 [(.iload 5, 0, 0, 0), (.ifCond .ne 15, 1685, 0, 0), (.aload_n 3, 0, 0, 0), (.iconst 0, 0, 0, 0), (.laload, 0, 0, 0), (.iload 6, 0, 0, 0), (.i2l, 0, 0, 0), (.lcmp, 0, 0, 0), (.ifCond .eq 5, 1685, 0, 0), (.iconst 0, 0, 0, 0), (.ireturn, 0, 0, 0)] = true := by decide +kernel
theorem k0L_law_1685 : gAt (mL_law none) 1685 [(.goto 1374, 3059, 0, 0)] = true := by decide +kernel
theorem k0L_law_1688 : gAt (mL_law none) 1688 [(.aload_n 1, 0, 0, 0), (.aload_n 0, 0, 0, 0), (.iload 4, 0, 0, 0), (.iconst 1, 0, 0, 0), (.iadd, 0, 0, 0)] = true := by decide +kernel
theorem k0L_law_1695 : gAt (mL_law none) 1695 [(.aload_n 3, 0, 0, 0)] = true := by decide +kernel
theorem k0L_law_1699 : gAt (mL_law none) 1699 [(.istore 5, 0, 0, 0), (.aload_n 2, 0, 0, 0), (.aload_n 0, 0, 0, 0), (.iload 4, 0, 0, 0), (.iconst 1, 0, 0, 0), (.iadd, 0, 0, 0)] = true := by decide +kernel
theorem k0L_law_1711 : gAt (mL_law none) 1711 [(.istore 6, 0, 0, 0), (.aload_n 2, 0, 0, 0)] = true := by decide +kernel
theorem k0L_law_1717 : gAt (mL_law none) 1717 [(.iload 5, 0, 0, 0), (.if_icmp .eq 5, 1724, 0, 0), (.iconst 0, 0, 0, 0), (.ireturn, 0, 0, 0)] = true := by decide +kernel
theorem k0L_law_1724 : gAt (mL_law none) 1724 [(.iload 5, 0, 0, 0), (.ifCond .ne 15, 1741, 0, 0), (.aload_n 3, 0, 0, 0), (.iconst 0, 0, 0, 0), (.laload, 0, 0, 0), (.iload 6, 0, 0, 0), (.i2l, 0, 0, 0), (.lcmp, 0, 0, 0), (.ifCond .eq 5, 1741, 0, 0), (.iconst 0, 0, 0, 0), (.ireturn, 0, 0, 0)] = true := by decide +kernel
theorem k0L_law_1741 : gAt (mL_law none) 1741 [(.goto 1318, 3059, 0, 0)] = true := by decide +kernel
theorem k0L_law_1744 : gAt (mL_law none) 1744 [(.aload_n 1, 0, 0, 0), (.aload_n 0, 0, 0, 0), (.iload 4, 0, 0, 0), (.iconst 1, 0, 0, 0), (.iadd, 0, 0, 0)] = true := by decide +kernel
theorem k0L_law_1751 : gAt (mL_law none) 1751 [(.aload_n 0, 0, 0, 0), (.iload 4, 0, 0, 0), (.iconst 2, 0, 0, 0), (.iadd, 0, 0, 0)] = true := by decide +kernel
theorem k0L_law_1757 : gAt (mL_law none) 1757 [(.aload_n 0, 0, 0, 0), (.iload 4, 0, 0, 0), (.iconst 3, 0, 0, 0), (.iadd, 0, 0, 0)] = true := by decide +kernel
theorem k0L_law_1763 : gAt (mL_law none) 1763 [(.aload_n 3, 0, 0, 0)] = true := by decide +kernel
theorem k0L_law_1767 : gAt (mL_law none) 1767 [(.istore 5, 0, 0, 0), (.aload_n 2, 0, 0, 0), (.aload_n 0, 0, 0, 0), (.iload 4, 0, 0, 0), (.iconst 1, 0, 0, 0), (.iadd, 0, 0, 0)] = true := by decide +kernel
theorem k0L_law_1776 : gAt (mL_law none) 1776 [(.aload_n 0, 0, 0, 0), (.iload 4, 0, 0, 0), (.iconst 2, 0, 0, 0), (.iadd, 0, 0, 0)] = true := by decide +kernel
theorem k0L_law_1782 : gAt (mL_law none) 1782 [(.aload_n 0, 0, 0, 0), (.iload 4, 0, 0, 0), (.iconst 3, 0, 0, 0), (.iadd, 0, 0, 0)] = true := by decide +kernel
theorem k0L_law_1791 : gAt (mL_law none) 1791 [(.istore 6, 0, 0, 0), (.aload_n 2, 0, 0, 0)] = true := by decide +kernel
theorem k0L_law_1797 : gAt (mL_law none) 1797 [(.iload 5, 0, 0, 0), (.if_icmp .eq 5, 1804, 0, 0), (.iconst 0, 0, 0, 0), (.ireturn, 0, 0, 0)] = true := by decide +kernel
theorem k0L_law_1804 : gAt (mL_law none) 1804 [(.iload 5, 0, 0, 0), (.ifCond .ne 15, 1821, 0, 0), (.aload_n 3, 0, 0, 0), (.iconst 0, 0, 0, 0), (.laload, 0, 0, 0), (.iload 6, 0, 0, 0), (.i2l, 0, 0, 0), (.lcmp, 0, 0, 0), (.ifCond .eq 5, 1821, 0, 0), (.iconst 0, 0, 0, 0), (.ireturn, 0, 0, 0)] = true := by decide +kernel
theorem k0L_law_1821 : gAt (mL_law none) 1821 [(.goto 1238, 3059, 0, 0)] = true := by decide +kernel
theorem k0L_law_1824 : gAt (mL_law none) 1824 [(.aload_n 1, 0, 0, 0), (.aload_n 0, 0, 0, 0), (.iload 4, 0, 0, 0), (.iconst 1, 0, 0, 0), (.iadd, 0, 0, 0)] = true := by decide +kernel
theorem k0L_law_1831 : gAt (mL_law none) 1831 [(.aload_n 0, 0, 0, 0), (.iload 4, 0, 0, 0), (.iconst 2, 0, 0, 0), (.iadd, 0, 0, 0)] = true := by decide +kernel
theorem k0L_law_1837 : gAt (mL_law none) 1837 [(.aload_n 0, 0, 0, 0), (.iload 4, 0, 0, 0), (.iconst 3, 0, 0, 0), (.iadd, 0, 0, 0)] = true := by decide +kernel
theorem k0L_law_1843 : gAt (mL_law none) 1843 [(.aload_n 3, 0, 0, 0)] = true := by decide +kernel
theorem k0L_law_1847 : gAt (mL_law none) 1847 [(.istore 5, 0, 0, 0), (.aload_n 2, 0, 0, 0), (.aload_n 0, 0, 0, 0), (.iload 4, 0, 0, 0), (.iconst 1, 0, 0, 0), (.iadd, 0, 0, 0)] = true := by decide +kernel
theorem k0L_law_1856 : gAt (mL_law none) 1856 [(.aload_n 0, 0, 0, 0), (.iload 4, 0, 0, 0), (.iconst 2, 0, 0, 0), (.iadd, 0, 0, 0)] = true := by decide +kernel
theorem k0L_law_1862 : gAt (mL_law none) 1862 [(.aload_n 0, 0, 0, 0), (.iload 4, 0, 0, 0), (.iconst 3, 0, 0, 0), (.iadd, 0, 0, 0)] = true := by decide +kernel
theorem k0L_law_1871 : gAt (mL_law none) 1871 [(.istore 6, 0, 0, 0), (.aload_n 2, 0, 0, 0)] = true := by decide +kernel
theorem k0L_law_1877 : gAt (mL_law none) 1877 [(.iload 5, 0, 0, 0), (.if_icmp .eq 5, 1884, 0, 0), (.iconst 0, 0, 0, 0), (.ireturn, 0, 0, 0)] = true := by decide +kernel
theorem k0L_law_1884 : gAt (mL_law none) 1884 [(.iload 5, 0, 0, 0), (.ifCond .ne 15, 1901, 0, 0), (.aload_n 3, 0, 0, 0), (.iconst 0, 0, 0, 0), (.laload, 0, 0, 0), (.iload 6, 0, 0, 0), (.i2l, 0, 0, 0), (.lcmp, 0, 0, 0), (.ifCond .eq 5, 1901, 0, 0), (.iconst 0, 0, 0, 0), (.ireturn, 0, 0, 0)] = true := by decide +kernel
theorem k0L_law_1901 : gAt (mL_law none) 1901 [(.goto 1158, 3059, 0, 0)] = true := by decide +kernel
theorem k0L_law_1904 : gAt (mL_law none) 1904 [(.aload_n 1, 0, 0, 0), (.aload_n 0, 0, 0, 0), (.iload 4, 0, 0, 0), (.iconst 1, 0, 0, 0), (.iadd, 0, 0, 0)] = true := by decide +kernel
theorem k0L_law_1911 : gAt (mL_law none) 1911 [(.aload_n 3, 0, 0, 0)] = true := by decide +kernel
theorem k0L_law_1915 : gAt (mL_law none) 1915 [(.istore 5, 0, 0, 0), (.aload_n 2, 0, 0, 0), (.aload_n 0, 0, 0, 0), (.iload 4, 0, 0, 0), (.iconst 1, 0, 0, 0), (.iadd, 0, 0, 0)] = true := by decide +kernel
theorem k0L_law_1927 : gAt (mL_law none) 1927 [(.istore 6, 0, 0, 0), (.aload_n 2, 0, 0, 0)] = true := by decide +kernel
theorem k0L_law_1933 : gAt (mL_law none) 1933 [(.iload 5, 0, 0, 0), (.if_icmp .eq 5, 1940, 0, 0), (.iconst 0, 0, 0, 0), (.ireturn, 0, 0, 0)] = true := by decide +kernel
theorem k0L_law_1940 : gAt (mL_law none) 1940 [(.iload 5, 0, 0, 0), (.ifCond .ne 15, 1957, 0, 0), (.aload_n 3, 0, 0, 0), (.iconst 0, 0, 0, 0), (.laload, 0, 0, 0), (.iload 6, 0, 0, 0), (.i2l, 0, 0, 0), (.lcmp, 0, 0, 0), (.ifCond .eq 5, 1957, 0, 0), (.iconst 0, 0, 0, 0), (.ireturn, 0, 0, 0)] = true := by decide +kernel
theorem k0L_law_1957 : gAt (mL_law none) 1957 [(.goto 1102, 3059, 0, 0)] = true := by decide +kernel
theorem k0L_law_1960 : gAt (mL_law none) 1960 [(.aload_n 1, 0, 0, 0), (.aload_n 0, 0, 0, 0), (.iload 4, 0, 0, 0), (.iconst 1, 0, 0, 0), (.iadd, 0, 0, 0)] = true := by decide +kernel
theorem k0L_law_1967 : gAt (mL_law none) 1967 [(.aload_n 3, 0, 0, 0)] = true := by decide +kernel
theorem k0L_law_1971 : gAt (mL_law none) 1971 [(.istore 5, 0, 0, 0), (.aload_n 2, 0, 0, 0), (.aload_n 0, 0, 0, 0), (.iload 4, 0, 0, 0), (.iconst 1, 0, 0, 0), (.iadd, 0, 0, 0)] = true := by decide +kernel
theorem k0L_law_1983 : gAt (mL_law none) 1983 [(.istore 6, 0, 0, 0), (.aload_n 2, 0, 0, 0)] = true := by decide +kernel
theorem k0L_law_1989 : gAt (mL_law none) 1989 [(.iload 5, 0, 0, 0), (.if_icmp .eq 5, 1996, 0, 0), (.iconst 0, 0, 0, 0), (.ireturn, 0, 0, 0)] = true := by decide +kernel
theorem k0L_law_1996 : gAt (mL_law none) 1996 [(.iload 5, 0, 0, 0), (.ifCond .ne 15, 2013, 0, 0), (.aload_n 3, 0, 0, 0), (.iconst 0, 0, 0, 0), (.laload, 0, 0, 0), (.iload 6, 0, 0, 0), (.i2l, 0, 0, 0), (.lcmp, 0, 0, 0), (.ifCond .eq 5, 2013, 0, 0), (.iconst 0, 0, 0, 0), (.ireturn, 0, 0, 0)] = true := by decide +kernel
theorem k0L_law_2013 : gAt (mL_law none) 2013 [(.goto 1046, 3059, 0, 0)] = true := by decide +kernel
theorem k0L_law_2016 : gAt (mL_law none) 2016 [(.aload_n 1, 0, 0, 0), (.aload_n 0, 0, 0, 0), (.iload 4, 0, 0, 0), (.iconst 1, 0, 0, 0), (.iadd, 0, 0, 0)] = true := by decide +kernel
theorem k0L_law_2023 : gAt (mL_law none) 2023 [(.aload_n 0, 0, 0, 0), (.iload 4, 0, 0, 0), (.iconst 2, 0, 0, 0), (.iadd, 0, 0, 0)] = true := by decide +kernel
theorem k0L_law_2029 : gAt (mL_law none) 2029 [(.aload_n 0, 0, 0, 0), (.iload 4, 0, 0, 0), (.iconst 3, 0, 0, 0), (.iadd, 0, 0, 0)] = true := by decide +kernel
theorem k0L_law_2035 : gAt (mL_law none) 2035 [(.aload_n 0, 0, 0, 0), (.iload 4, 0, 0, 0), (.iconst 4, 0, 0, 0), (.iadd, 0, 0, 0)] = true := by decide +kernel
theorem k0L_law_2041 : gAt (mL_law none) 2041 [(.aload_n 3, 0, 0, 0)] = true := by decide +kernel
theorem k0L_law_2045 : gAt (mL_law none) 2045 [(.istore 5, 0, 0, 0), (.aload_n 2, 0, 0, 0), (.aload_n 0, 0, 0, 0), (.iload 4, 0, 0, 0), (.iconst 1, 0, 0, 0), (.iadd, 0, 0, 0)] = true := by decide +kernel
theorem k0L_law_2054 : gAt (mL_law none) 2054 [(.aload_n 0, 0, 0, 0), (.iload 4, 0, 0, 0), (.iconst 2, 0, 0, 0), (.iadd, 0, 0, 0)] = true := by decide +kernel
theorem k0L_law_2060 : gAt (mL_law none) 2060 [(.aload_n 0, 0, 0, 0), (.iload 4, 0, 0, 0), (.iconst 3, 0, 0, 0), (.iadd, 0, 0, 0)] = true := by decide +kernel
theorem k0L_law_2066 : gAt (mL_law none) 2066 [(.aload_n 0, 0, 0, 0), (.iload 4, 0, 0, 0), (.iconst 4, 0, 0, 0), (.iadd, 0, 0, 0)] = true := by decide +kernel
theorem k0L_law_2075 : gAt (mL_law none) 2075 [(.istore 6, 0, 0, 0), (.aload_n 2, 0, 0, 0)] = true := by decide +kernel
theorem k0L_law_2081 : gAt (mL_law none) 2081 [(.iload 5, 0, 0, 0), (.if_icmp .eq 5, 2088, 0, 0), (.iconst 0, 0, 0, 0), (.ireturn, 0, 0, 0)] = true := by decide +kernel
theorem k0L_law_2088 : gAt (mL_law none) 2088 [(.iload 5, 0, 0, 0), (.ifCond .ne 15, 2105, 0, 0), (.aload_n 3, 0, 0, 0), (.iconst 0, 0, 0, 0), (.laload, 0, 0, 0), (.iload 6, 0, 0, 0), (.i2l, 0, 0, 0), (.lcmp, 0, 0, 0), (.ifCond .eq 5, 2105, 0, 0), (.iconst 0, 0, 0, 0), (.ireturn, 0, 0, 0)] = true := by decide +kernel
theorem k0L_law_2105 : gAt (mL_law none) 2105 [(.goto 954, 3059, 0, 0)] = true := by decide +kernel
theorem k0L_law_2108 : gAt (mL_law none) 2108 [(.aload_n 1, 0, 0, 0), (.aload_n 0, 0, 0, 0), (.iload 4, 0, 0, 0), (.iconst 1, 0, 0, 0), (.iadd, 0, 0, 0)] = true := by decide +kernel
theorem k0L_law_2115 : gAt (mL_law none) 2115 [(.aload_n 3, 0, 0, 0)] = true := by decide +kernel
theorem k0L_law_2119 : gAt (mL_law none) 2119 [(.istore 5, 0, 0, 0), (.aload_n 2, 0, 0, 0), (.aload_n 0, 0, 0, 0), (.iload 4, 0, 0, 0), (.iconst 1, 0, 0, 0), (.iadd, 0, 0, 0)] = true := by decide +kernel
theorem k0L_law_2131 : gAt (mL_law none) 2131 [(.istore 6, 0, 0, 0), (.aload_n 2, 0, 0, 0)] = true := by decide +kernel
theorem k0L_law_2137 : gAt (mL_law none) 2137 [(.iload 5, 0, 0, 0), (.if_icmp .eq 5, 2144, 0, 0), (.iconst 0, 0, 0, 0), (.ireturn, 0, 0, 0)] = true := by decide +kernel
theorem k0L_law_2144 : gAt (mL_law none) 2144 [(.iload 5, 0, 0, 0), (.ifCond .ne 15, 2161, 0, 0), (.aload_n 3, 0, 0, 0), (.iconst 0, 0, 0, 0), (.laload, 0, 0, 0), (.iload 6, 0, 0, 0), (.i2l, 0, 0, 0), (.lcmp, 0, 0, 0), (.ifCond .eq 5, 2161, 0, 0), (.iconst 0, 0, 0, 0), (.ireturn, 0, 0, 0)] = true := by decide +kernel
theorem k0L_law_2161 : gAt (mL_law none) 2161 [(.goto 898, 3059, 0, 0)] = true := by decide +kernel
theorem k0L_law_2164 : gAt (mL_law none) 2164 [(.aload_n 1, 0, 0, 0), (.aload_n 0, 0, 0, 0), (.iload 4, 0, 0, 0), (.iconst 1, 0, 0, 0), (.iadd, 0, 0, 0)] = true := by decide +kernel
theorem k0L_law_2171 : gAt (mL_law none) 2171 [(.aload_n 3, 0, 0, 0)] = true := by decide +kernel
theorem k0L_law_2175 : gAt (mL_law none) 2175 [(.istore 5, 0, 0, 0), (.aload_n 2, 0, 0, 0), (.aload_n 0, 0, 0, 0), (.iload 4, 0, 0, 0), (.iconst 1, 0, 0, 0), (.iadd, 0, 0, 0)] = true := by decide +kernel
theorem k0L_law_2187 : gAt (mL_law none) 2187 [(.istore 6, 0, 0, 0), (.aload_n 2, 0, 0, 0)] = true := by decide +kernel
theorem k0L_law_2193 : gAt (mL_law none) 2193 [(.iload 5, 0, 0, 0), (.if_icmp .eq 5, 2200, 0, 0), (.iconst 0, 0, 0, 0), (.ireturn, 0, 0, 0)] = true := by decide +kernel
theorem k0L_law_2200 : gAt (mL_law none) 2200 [(.iload 5, 0, 0, 0), (.ifCond .ne 15, 2217, 0, 0), (.aload_n 3, 0, 0, 0), (.iconst 0, 0, 0, 0), (.laload, 0, 0, 0), (.iload 6, 0, 0, 0), (.i2l, 0, 0, 0), (.lcmp, 0, 0, 0), (.ifCond .eq 5, 2217, 0, 0), (.iconst 0, 0, 0, 0), (.ireturn, 0, 0, 0)] = true := by decide +kernel
theorem k0L_law_2217 : gAt (mL_law none) 2217 [(.goto 842, 3059, 0, 0)] = true := by decide +kernel
theorem k0L_law_2220 : gAt (mL_law none) 2220 [(.aload_n 1, 0, 0, 0)] = true := by decide +kernel
theorem k0L_law_2224 : gAt (mL_law none) 2224 [(.aload_n 2, 0, 0, 0)] = true := by decide +kernel
theorem k0L_law_2228 : gAt (mL_law none) 2228 [(.if_icmp .eq 831, 3059, 0, 0), (.iconst 0, 0, 0, 0), (.ireturn, 0, 0, 0)] = true := by decide +kernel
theorem k0L_law_2233 : gAt (mL_law none) 2233 [(.aload_n 1, 0, 0, 0)] = true := by decide +kernel
theorem k0L_law_2237 : gAt (mL_law none) 2237 [(.aload_n 2, 0, 0, 0)] = true := by decide +kernel
theorem k0L_law_2241 : gAt (mL_law none) 2241 [(.if_icmp .eq 818, 3059, 0, 0), (.iconst 0, 0, 0, 0), (.ireturn, 0, 0, 0)] = true := by decide +kernel
theorem k0L_law_2246 : gAt (mL_law none) 2246 [(.aload_n 1, 0, 0, 0)] = true := by decide +kernel
theorem k0L_law_2250 : gAt (mL_law none) 2250 [(.aload_n 2, 0, 0, 0)] = true := by decide +kernel
theorem k0L_law_2254 : gAt (mL_law none) 2254 [(.if_icmp .eq 805, 3059, 0, 0), (.iconst 0, 0, 0, 0), (.ireturn, 0, 0, 0)] = true := by decide +kernel
theorem k0L_law_2259 : gAt (mL_law none) 2259 [(.aload_n 1, 0, 0, 0)] = true := by decide +kernel
theorem k0L_law_2263 : gAt (mL_law none) 2263 [(.aload_n 2, 0, 0, 0)] = true := by decide +kernel
theorem k0L_law_2267 : gAt (mL_law none) 2267 [(.if_icmp .eq 792, 3059, 0, 0), (.iconst 0, 0, 0, 0), (.ireturn, 0, 0, 0)] = true := by decide +kernel
theorem k0L_law_2272 : gAt (mL_law none) 2272 [(.aload_n 1, 0, 0, 0)] = true := by decide +kernel
theorem k0L_law_2276 : gAt (mL_law none) 2276 [(.aload_n 2, 0, 0, 0)] = true := by decide +kernel
theorem k0L_law_2280 : gAt (mL_law none) 2280 [(.if_icmp .eq 779, 3059, 0, 0), (.iconst 0, 0, 0, 0), (.ireturn, 0, 0, 0)] = true := by decide +kernel
theorem k0L_law_2285 : gAt (mL_law none) 2285 [(.aload_n 1, 0, 0, 0)] = true := by decide +kernel
theorem k0L_law_2289 : gAt (mL_law none) 2289 [(.aload_n 2, 0, 0, 0)] = true := by decide +kernel
theorem k0L_law_2293 : gAt (mL_law none) 2293 [(.if_icmp .eq 766, 3059, 0, 0), (.iconst 0, 0, 0, 0), (.ireturn, 0, 0, 0)] = true := by decide +kernel
theorem k0L_law_2298 : gAt (mL_law none) 2298 [(.aload_n 1, 0, 0, 0)] = true := by decide +kernel
theorem k0L_law_2302 : gAt (mL_law none) 2302 [(.f2d, 0, 0, 0), (.dstore 5, 0, 0, 0), (.aload_n 2, 0, 0, 0)] = true := by decide +kernel
theorem k0L_law_2309 : gAt (mL_law none) 2309 [(.f2d, 0, 0, 0), (.dstore 7, 0, 0, 0), (.dload 5, 0, 0, 0), (.dload 7, 0, 0, 0), (.dcmp .l, 0, 0, 0), (.ifCond .eq 21, 2338, 0, 0), (.dload 5, 0, 0, 0), (.dload 5, 0, 0, 0), (.dcmp .l, 0, 0, 0), (.ifCond .eq 11, 2336, 0, 0), (.dload 7, 0, 0, 0), (.dload 7, 0, 0, 0), (.dcmp .l, 0, 0, 0), (.ifCond .ne 5, 2338, 0, 0)] = true := by decide +kernel
theorem k0L_law_2336 : gAt (mL_law none) 2336 [(.iconst 0, 0, 0, 0), (.ireturn, 0, 0, 0)] = true := by decide +kernel
theorem k0L_law_2338 : gAt (mL_law none) 2338 [(.goto 721, 3059, 0, 0)] = true := by decide +kernel
theorem k0L_law_2341 : gAt (mL_law none) 2341 [(.aload_n 1, 0, 0, 0)] = true := by decide +kernel
theorem k0L_law_2345 : gAt (mL_law none) 2345 [(.dstore 5, 0, 0, 0), (.aload_n 2, 0, 0, 0)] = true := by decide +kernel
theorem k0L_law_2351 : gAt (mL_law none) 2351 [(.dstore 7, 0, 0, 0), (.dload 5, 0, 0, 0), (.dload 7, 0, 0, 0), (.dcmp .l, 0, 0, 0), (.ifCond .eq 21, 2379, 0, 0), (.dload 5, 0, 0, 0), (.dload 5, 0, 0, 0), (.dcmp .l, 0, 0, 0), (.ifCond .eq 11, 2377, 0, 0), (.dload 7, 0, 0, 0), (.dload 7, 0, 0, 0), (.dcmp .l, 0, 0, 0), (.ifCond .ne 5, 2379, 0, 0)] = true := by decide +kernel
theorem k0L_law_2377 : gAt (mL_law none) 2377 [(.iconst 0, 0, 0, 0), (.ireturn, 0, 0, 0)] = true := by decide +kernel
theorem k0L_law_2379 : gAt (mL_law none) 2379 [(.goto 680, 3059, 0, 0)] = true := by decide +kernel
theorem k0L_law_2382 : gAt (mL_law none) 2382 [(.aload_n 1, 0, 0, 0), (.aload_n 0, 0, 0, 0), (.iload 4, 0, 0, 0), (.iconst 1, 0, 0, 0), (.iadd, 0, 0, 0)] = true := by decide +kernel
theorem k0L_law_2389 : gAt (mL_law none) 2389 [(.aload_n 0, 0, 0, 0), (.iload 4, 0, 0, 0), (.iconst 2, 0, 0, 0), (.iadd, 0, 0, 0)] = true := by decide +kernel
theorem k0L_law_2395 : gAt (mL_law none) 2395 [(.aload_n 0, 0, 0, 0), (.iload 4, 0, 0, 0), (.iconst 3, 0, 0, 0), (.iadd, 0, 0, 0)] = true := by decide +kernel
theorem k0L_law_2401 : gAt (mL_law none) 2401 [(.aload_n 0, 0, 0, 0), (.iload 4, 0, 0, 0), (.iconst 4, 0, 0, 0), (.iadd, 0, 0, 0)] = true := by decide +kernel
theorem k0L_law_2407 : gAt (mL_law none) 2407 [(.aload_n 0, 0, 0, 0), (.iload 4, 0, 0, 0), (.iconst 5, 0, 0, 0), (.iadd, 0, 0, 0)] = true := by decide +kernel
theorem k0L_law_2413 : gAt (mL_law none) 2413 [(.aload_n 3, 0, 0, 0)] = true := by decide +kernel
theorem k0L_law_2417 : gAt (mL_law none) 2417 [(.istore 5, 0, 0, 0), (.aload_n 2, 0, 0, 0), (.aload_n 0, 0, 0, 0), (.iload 4, 0, 0, 0), (.iconst 1, 0, 0, 0), (.iadd, 0, 0, 0)] = true := by decide +kernel
theorem k0L_law_2426 : gAt (mL_law none) 2426 [(.aload_n 0, 0, 0, 0), (.iload 4, 0, 0, 0), (.iconst 2, 0, 0, 0), (.iadd, 0, 0, 0)] = true := by decide +kernel
theorem k0L_law_2432 : gAt (mL_law none) 2432 [(.aload_n 0, 0, 0, 0), (.iload 4, 0, 0, 0), (.iconst 3, 0, 0, 0), (.iadd, 0, 0, 0)] = true := by decide +kernel
theorem k0L_law_2438 : gAt (mL_law none) 2438 [(.aload_n 0, 0, 0, 0), (.iload 4, 0, 0, 0), (.iconst 4, 0, 0, 0), (.iadd, 0, 0, 0)] = true := by decide +kernel
theorem k0L_law_2444 : gAt (mL_law none) 2444 [(.aload_n 0, 0, 0, 0), (.iload 4, 0, 0, 0), (.iconst 5, 0, 0, 0), (.iadd, 0, 0, 0)] = true := by decide +kernel
theorem k0L_law_2453 : gAt (mL_law none) 2453 [(.istore 6, 0, 0, 0), (.aload_n 2, 0, 0, 0)] = true := by decide +kernel
theorem k0L_law_2459 : gAt (mL_law none) 2459 [(.iload 5, 0, 0, 0), (.if_icmp .eq 5, 2466, 0, 0), (.iconst 0, 0, 0, 0), (.ireturn, 0, 0, 0)] = true := by decide +kernel
theorem k0L_law_2466 : gAt (mL_law none) 2466 [(.iload 5, 0, 0, 0), (.ifCond .ne 15, 2483, 0, 0), (.aload_n 3, 0, 0, 0), (.iconst 0, 0, 0, 0), (.laload, 0, 0, 0), (.iload 6, 0, 0, 0), (.i2l, 0, 0, 0), (.lcmp, 0, 0, 0), (.ifCond .eq 5, 2483, 0, 0), (.iconst 0, 0, 0, 0), (.ireturn, 0, 0, 0)] = true := by decide +kernel
theorem k0L_law_2483 : gAt (mL_law none) 2483 [(.goto 576, 3059, 0, 0)] = true := by decide +kernel
theorem k0L_law_2486 : gAt (mL_law none) 2486 [(.aload_n 1, 0, 0, 0), (.aload_n 0, 0, 0, 0), (.iload 4, 0, 0, 0), (.iconst 1, 0, 0, 0), (.iadd, 0, 0, 0)] = true := by decide +kernel
theorem k0L_law_2493 : gAt (mL_law none) 2493 [(.aload_n 3, 0, 0, 0)] = true := by decide +kernel
theorem k0L_law_2497 : gAt (mL_law none) 2497 [(.istore 5, 0, 0, 0), (.aload_n 2, 0, 0, 0), (.aload_n 0, 0, 0, 0), (.iload 4, 0, 0, 0), (.iconst 1, 0, 0, 0), (.iadd, 0, 0, 0)] = true := by decide +kernel
theorem k0L_law_2509 : gAt (mL_law none) 2509 [(.istore 6, 0, 0, 0), (.aload_n 2, 0, 0, 0)] = true := by decide +kernel
theorem k0L_law_2515 : gAt (mL_law none) 2515 [(.iload 5, 0, 0, 0), (.if_icmp .eq 5, 2522, 0, 0), (.iconst 0, 0, 0, 0), (.ireturn, 0, 0, 0)] = true := by decide +kernel
theorem k0L_law_2522 : gAt (mL_law none) 2522 [(.iload 5, 0, 0, 0), (.ifCond .ne 15, 2539, 0, 0), (.aload_n 3, 0, 0, 0), (.iconst 0, 0, 0, 0), (.laload, 0, 0, 0), (.iload 6, 0, 0, 0), (.i2l, 0, 0, 0), (.lcmp, 0, 0, 0), (.ifCond .eq 5, 2539, 0, 0), (.iconst 0, 0, 0, 0), (.ireturn, 0, 0, 0)] = true := by decide +kernel
theorem k0L_law_2539 : gAt (mL_law none) 2539 [(.goto 520, 3059, 0, 0)] = true := by decide +kernel
theorem k0L_law_2542 : gAt (mL_law none) 2542 [(.aload_n 1, 0, 0, 0), (.aload_n 0, 0, 0, 0), (.iload 4, 0, 0, 0), (.iconst 1, 0, 0, 0), (.iadd, 0, 0, 0)] = true := by decide +kernel
theorem k0L_law_2549 : gAt (mL_law none) 2549 [(.aload_n 3, 0, 0, 0)] = true := by decide +kernel
theorem k0L_law_2553 : gAt (mL_law none) 2553 [(.istore 5, 0, 0, 0), (.aload_n 2, 0, 0, 0), (.aload_n 0, 0, 0, 0), (.iload 4, 0, 0, 0), (.iconst 1, 0, 0, 0), (.iadd, 0, 0, 0)] = true := by decide +kernel
theorem k0L_law_2565 : gAt (mL_law none) 2565 [(.istore 6, 0, 0, 0), (.aload_n 2, 0, 0, 0)] = true := by decide +kernel
theorem k0L_law_2571 : gAt (mL_law none) 2571 [(.iload 5, 0, 0, 0), (.if_icmp .eq 5, 2578, 0, 0), (.iconst 0, 0, 0, 0), (.ireturn, 0, 0, 0)] = true := by decide +kernel
theorem k0L_law_2578 : gAt (mL_law none) 2578 [(.iload 5, 0, 0, 0), (.ifCond .ne 15, 2595, 0, 0), (.aload_n 3, 0, 0, 0), (.iconst 0, 0, 0, 0), (.laload, 0, 0, 0), (.iload 6, 0, 0, 0), (.i2l, 0, 0, 0), (.lcmp, 0, 0, 0), (.ifCond .eq 5, 2595, 0, 0), (.iconst 0, 0, 0, 0), (.ireturn, 0, 0, 0)] = true := by decide +kernel
theorem k0L_law_2595 : gAt (mL_law none) 2595 [(.goto 464, 3059, 0, 0)] = true := by decide +kernel
theorem k0L_law_2598 : gAt (mL_law none) 2598 [(.aload_n 1, 0, 0, 0), (.aload_n 0, 0, 0, 0), (.iload 4, 0, 0, 0), (.iconst 1, 0, 0, 0), (.iadd, 0, 0, 0)] = true := by decide +kernel
theorem k0L_law_2605 : gAt (mL_law none) 2605 [(.aload_n 3, 0, 0, 0)] = true := by decide +kernel
theorem k0L_law_2609 : gAt (mL_law none) 2609 [(.istore 5, 0, 0, 0), (.aload_n 2, 0, 0, 0), (.aload_n 0, 0, 0, 0), (.iload 4, 0, 0, 0), (.iconst 1, 0, 0, 0), (.iadd, 0, 0, 0)] = true := by decide +kernel
theorem k0L_law_2621 : gAt (mL_law none) 2621 [(.istore 6, 0, 0, 0), (.aload_n 2, 0, 0, 0)] = true := by decide +kernel
theorem k0L_law_2627 : gAt (mL_law none) 2627 [(.iload 5, 0, 0, 0), (.if_icmp .eq 5, 2634, 0, 0), (.iconst 0, 0, 0, 0), (.ireturn, 0, 0, 0)] = true := by decide +kernel
theorem k0L_law_2634 : gAt (mL_law none) 2634 [(.iload 5, 0, 0, 0), (.ifCond .ne 15, 2651, 0, 0), (.aload_n 3, 0, 0, 0), (.iconst 0, 0, 0, 0), (.laload, 0, 0, 0), (.iload 6, 0, 0, 0), (.i2l, 0, 0, 0), (.lcmp, 0, 0, 0), (.ifCond .eq 5, 2651, 0, 0), (.iconst 0, 0, 0, 0), (.ireturn, 0, 0, 0)] = true := by decide +kernel
theorem k0L_law_2651 : gAt (mL_law none) 2651 [(.goto 408, 3059, 0, 0)] = true := by decide +kernel
theorem k0L_law_2654 : gAt (mL_law none) 2654 [(.aload_n 1, 0, 0, 0), (.aload_n 0, 0, 0, 0), (.iload 4, 0, 0, 0), (.iconst 1, 0, 0, 0), (.iadd, 0, 0, 0)] = true := by decide +kernel
theorem k0L_law_2661 : gAt (mL_law none) 2661 [(.aload_n 0, 0, 0, 0), (.iload 4, 0, 0, 0), (.iconst 2, 0, 0, 0), (.iadd, 0, 0, 0)] = true := by decide +kernel
theorem k0L_law_2667 : gAt (mL_law none) 2667 [(.aload_n 3, 0, 0, 0)] = true := by decide +kernel
theorem k0L_law_2671 : gAt (mL_law none) 2671 [(.istore 5, 0, 0, 0), (.aload_n 2, 0, 0, 0), (.aload_n 0, 0, 0, 0), (.iload 4, 0, 0, 0), (.iconst 1, 0, 0, 0), (.iadd, 0, 0, 0)] = true := by decide +kernel
theorem k0L_law_2680 : gAt (mL_law none) 2680 [(.aload_n 0, 0, 0, 0), (.iload 4, 0, 0, 0), (.iconst 2, 0, 0, 0), (.iadd, 0, 0, 0)] = true := by decide +kernel
theorem k0L_law_2689 : gAt (mL_law none) 2689 [(.istore 6, 0, 0, 0), (.aload_n 2, 0, 0, 0)] = true := by decide +kernel
theorem k0L_law_2695 : gAt (mL_law none) 2695 [(.iload 5, 0, 0, 0), (.if_icmp .eq 5, 2702, 0, 0), (.iconst 0, 0, 0, 0), (.ireturn, 0, 0, 0)] = true := by decide +kernel
theorem k0L_law_2702 : gAt (mL_law none) 2702 [(.iload 5, 0, 0, 0), (.ifCond .ne 15, 2719, 0, 0), (.aload_n 3, 0, 0, 0), (.iconst 0, 0, 0, 0), (.laload, 0, 0, 0), (.iload 6, 0, 0, 0), (.i2l, 0, 0, 0), (.lcmp, 0, 0, 0), (.ifCond .eq 5, 2719, 0, 0), (.iconst 0, 0, 0, 0), (.ireturn, 0, 0, 0)] = true := by decide +kernel
theorem k0L_law_2719 : gAt (mL_law none) 2719 [(.goto 340, 3059, 0, 0)] = true := by decide +kernel
theorem k0L_law_2722 : gAt (mL_law none) 2722 [(.aload_n 1, 0, 0, 0)] = true := by decide +kernel
theorem k0L_law_2726 : gAt (mL_law none) 2726 [(.aload_n 2, 0, 0, 0)] = true := by decide +kernel
theorem k0L_law_2730 : gAt (mL_law none) 2730 [(.if_icmp .eq 329, 3059, 0, 0), (.iconst 0, 0, 0, 0), (.ireturn, 0, 0, 0)] = true := by decide +kernel
theorem k0L_law_2735 : gAt (mL_law none) 2735 [(.aload_n 1, 0, 0, 0), (.aload_n 0, 0, 0, 0), (.iload 4, 0, 0, 0), (.iconst 1, 0, 0, 0), (.iadd, 0, 0, 0)] = true := by decide +kernel
theorem k0L_law_2742 : gAt (mL_law none) 2742 [(.aload_n 3, 0, 0, 0)] = true := by decide +kernel
theorem k0L_law_2746 : gAt (mL_law none) 2746 [(.istore 5, 0, 0, 0), (.aload_n 2, 0, 0, 0), (.aload_n 0, 0, 0, 0), (.iload 4, 0, 0, 0), (.iconst 1, 0, 0, 0), (.iadd, 0, 0, 0)] = true := by decide +kernel
theorem k0L_law_2758 : gAt (mL_law none) 2758 [(.istore 6, 0, 0, 0), (.aload_n 2, 0, 0, 0)] = true := by decide +kernel
theorem k0L_law_2764 : gAt (mL_law none) 2764 [(.iload 5, 0, 0, 0), (.if_icmp .eq 5, 2771, 0, 0), (.iconst 0, 0, 0, 0), (.ireturn, 0, 0, 0)] = true := by decide +kernel
theorem k0L_law_2771 : gAt (mL_law none) 2771 [(.iload 5, 0, 0, 0), (.ifCond .ne 15, 2788, 0, 0), (.aload_n 3, 0, 0, 0), (.iconst 0, 0, 0, 0), (.laload, 0, 0, 0), (.iload 6, 0, 0, 0), (.i2l, 0, 0, 0), (.lcmp, 0, 0, 0), (.ifCond .eq 5, 2788, 0, 0), (.iconst 0, 0, 0, 0), (.ireturn, 0, 0, 0)] = true := by decide +kernel
theorem k0L_law_2788 : gAt (mL_law none) 2788 [(.goto 271, 3059, 0, 0)] = true := by decide +kernel
theorem k0L_law_2791 : gAt (mL_law none) 2791 [(.aload_n 1, 0, 0, 0), (.aload_n 0, 0, 0, 0), (.iload 4, 0, 0, 0), (.iconst 1, 0, 0, 0), (.iadd, 0, 0, 0)] = true := by decide +kernel
theorem k0L_law_2798 : gAt (mL_law none) 2798 [(.aload_n 3, 0, 0, 0)] = true := by decide +kernel
theorem k0L_law_2802 : gAt (mL_law none) 2802 [(.istore 5, 0, 0, 0), (.aload_n 2, 0, 0, 0), (.aload_n 0, 0, 0, 0), (.iload 4, 0, 0, 0), (.iconst 1, 0, 0, 0), (.iadd, 0, 0, 0)] = true := by decide +kernel
theorem k0L_law_2814 : gAt (mL_law none) 2814 [(.istore 6, 0, 0, 0), (.aload_n 2, 0, 0, 0)] = true := by decide +kernel
theorem k0L_law_2820 : gAt (mL_law none) 2820 [(.iload 5, 0, 0, 0), (.if_icmp .eq 5, 2827, 0, 0), (.iconst 0, 0, 0, 0), (.ireturn, 0, 0, 0)] = true := by decide +kernel
theorem k0L_law_2827 : gAt (mL_law none) 2827 [(.iload 5, 0, 0, 0), (.ifCond .ne 15, 2844, 0, 0), (.aload_n 3, 0, 0, 0), (.iconst 0, 0, 0, 0), (.laload, 0, 0, 0), (.iload 6, 0, 0, 0), (.i2l, 0, 0, 0), (.lcmp, 0, 0, 0), (.ifCond .eq 5, 2844, 0, 0), (.iconst 0, 0, 0, 0), (.ireturn, 0, 0, 0)] = true := by decide +kernel
theorem k0L_law_2844 : gAt (mL_law none) 2844 [(.goto 215, 3059, 0, 0)] = true := by decide +kernel
theorem k0L_law_2847 : gAt (mL_law none) 2847 [(.aload_n 1, 0, 0, 0), (.aload_n 0, 0, 0, 0), (.iload 4, 0, 0, 0), (.iconst 1, 0, 0, 0), (.iadd, 0, 0, 0)] = true := by decide +kernel
theorem k0L_law_2854 : gAt (mL_law none) 2854 [(.aload_n 3, 0, 0, 0)] = true := by decide +kernel
theorem k0L_law_2858 : gAt (mL_law none) 2858 [(.istore 5, 0, 0, 0), (.aload_n 2, 0, 0, 0), (.aload_n 0, 0, 0, 0), (.iload 4, 0, 0, 0), (.iconst 1, 0, 0, 0), (.iadd, 0, 0, 0)] = true := by decide +kernel
theorem k0L_law_2870 : gAt (mL_law none) 2870 [(.istore 6, 0, 0, 0), (.aload_n 2, 0, 0, 0)] = true := by decide +kernel
theorem k0L_law_2876 : gAt (mL_law none) 2876 [(.iload 5, 0, 0, 0), (.if_icmp .eq 5, 2883, 0, 0), (.iconst 0, 0, 0, 0), (.ireturn, 0, 0, 0)] = true := by decide +kernel
theorem k0L_law_2883 : gAt (mL_law none) 2883 [(.iload 5, 0, 0, 0), (.ifCond .ne 15, 2900, 0, 0), (.aload_n 3, 0, 0, 0), (.iconst 0, 0, 0, 0), (.laload, 0, 0, 0), (.iload 6, 0, 0, 0), (.i2l, 0, 0, 0), (.lcmp, 0, 0, 0), (.ifCond .eq 5, 2900, 0, 0), (.iconst 0, 0, 0, 0), (.ireturn, 0, 0, 0)] = true := by decide +kernel
theorem k0L_law_2900 : gAt (mL_law none) 2900 [(.goto 159, 3059, 0, 0)] = true := by decide +kernel
theorem k0L_law_2903 : gAt (mL_law none) 2903 [(.aload_n 1, 0, 0, 0), (.aload_n 3, 0, 0, 0)] = true := by decide +kernel
theorem k0L_law_2908 : gAt (mL_law none) 2908 [(.istore 5, 0, 0, 0), (.aload_n 2, 0, 0, 0)] = true := by decide +kernel
theorem k0L_law_2914 : gAt (mL_law none) 2914 [(.istore 6, 0, 0, 0), (.aload_n 2, 0, 0, 0)] = true := by decide +kernel
theorem k0L_law_2920 : gAt (mL_law none) 2920 [(.iload 5, 0, 0, 0), (.if_icmp .eq 5, 2927, 0, 0), (.iconst 0, 0, 0, 0), (.ireturn, 0, 0, 0)] = true := by decide +kernel
theorem k0L_law_2927 : gAt (mL_law none) 2927 [(.iload 5, 0, 0, 0), (.ifCond .ne 15, 2944, 0, 0), (.aload_n 3, 0, 0, 0), (.iconst 0, 0, 0, 0), (.laload, 0, 0, 0), (.iload 6, 0, 0, 0), (.i2l, 0, 0, 0), (.lcmp, 0, 0, 0), (.ifCond .eq 5, 2944, 0, 0), (.iconst 0, 0, 0, 0), (.ireturn, 0, 0, 0)] = true := by decide +kernel
theorem k0L_law_2944 : gAt (mL_law none) 2944 [(.goto 115, 3059, 0, 0)] = true := by decide +kernel
theorem k0L_law_2947 : gAt (mL_law none) 2947 [(.aload_n 1, 0, 0, 0), (.aload_n 0, 0, 0, 0), (.iload 4, 0, 0, 0), (.iconst 1, 0, 0, 0), (.iadd, 0, 0, 0)] = true := by decide +kernel
theorem k0L_law_2954 : gAt (mL_law none) 2954 [(.aload_n 3, 0, 0, 0)] = true := by decide +kernel
theorem k0L_law_2958 : gAt (mL_law none) 2958 [(.istore 5, 0, 0, 0), (.aload_n 2, 0, 0, 0), (.aload_n 0, 0, 0, 0), (.iload 4, 0, 0, 0), (.iconst 1, 0, 0, 0), (.iadd, 0, 0, 0)] = true := by decide +kernel
theorem k0L_law_2970 : gAt (mL_law none) 2970 [(.istore 6, 0, 0, 0), (.aload_n 2, 0, 0, 0)] = true := by decide +kernel
theorem k0L_law_2976 : gAt (mL_law none) 2976 [(.iload 5, 0, 0, 0), (.if_icmp .eq 5, 2983, 0, 0), (.iconst 0, 0, 0, 0), (.ireturn, 0, 0, 0)] = true := by decide +kernel
theorem k0L_law_2983 : gAt (mL_law none) 2983 [(.iload 5, 0, 0, 0), (.ifCond .ne 15, 3000, 0, 0), (.aload_n 3, 0, 0, 0), (.iconst 0, 0, 0, 0), (.laload, 0, 0, 0), (.iload 6, 0, 0, 0), (.i2l, 0, 0, 0), (.lcmp, 0, 0, 0), (.ifCond .eq 5, 3000, 0, 0), (.iconst 0, 0, 0, 0), (.ireturn, 0, 0, 0)] = true := by decide +kernel
theorem k0L_law_3000 : gAt (mL_law none) 3000 [(.goto 59, 3059, 0, 0)] = true := by decide +kernel
theorem k0L_law_3003 : gAt (mL_law none) 3003 [(.aload_n 1, 0, 0, 0), (.aload_n 0, 0, 0, 0), (.iload 4, 0, 0, 0), (.iconst 1, 0, 0, 0), (.iadd, 0, 0, 0)] = true := by decide +kernel
theorem k0L_law_3010 : gAt (mL_law none) 3010 [(.aload_n 3, 0, 0, 0)] = true := by decide +kernel
theorem k0L_law_3014 : gAt (mL_law none) 3014 [(.istore 5, 0, 0, 0), (.aload_n 2, 0, 0, 0), (.aload_n 0, 0, 0, 0), (.iload 4, 0, 0, 0), (.iconst 1, 0, 0, 0), (.iadd, 0, 0, 0)] = true := by decide +kernel
theorem k0L_law_3026 : gAt (mL_law none) 3026 [(.istore 6, 0, 0, 0), (.aload_n 2, 0, 0, 0)] = true := by decide +kernel
theorem k0L_law_3032 : gAt (mL_law none) 3032 [(.iload 5, 0, 0, 0), (.if_icmp .eq 5, 3039, 0, 0), (.iconst 0, 0, 0, 0), (.ireturn, 0, 0, 0)] = true := by decide +kernel
theorem k0L_law_3039 : gAt (mL_law none) 3039 [(.iload 5, 0, 0, 0), (.ifCond .ne 15, 3056, 0, 0), (.aload_n 3, 0, 0, 0), (.iconst 0, 0, 0, 0), (.laload, 0, 0, 0), (.iload 6, 0, 0, 0), (.i2l, 0, 0, 0), (.lcmp, 0, 0, 0), (.ifCond .eq 5, 3056, 0, 0), (.iconst 0, 0, 0, 0), (.ireturn, 0, 0, 0)] = true := by decide +kernel
theorem k0L_law_3056 : gAt (mL_law none) 3056 [(.goto 3, 3059, 0, 0)] = true := by decide +kernel
theorem k0L_law_3059 : gAt (mL_law none) 3059 [(.iinc 4 6, 0, 0, 0), (.goto (-3039), 23, 0, 0)] = true := by decide +kernel
theorem k0L_law_3065 : gAt (mL_law none) 3065 [(.iconst 1, 0, 0, 0), (.ireturn, 0, 0, 0)] = true := by decide +kernel
theorem lkL_140 : gLkI RL 140 m8_init 0 := ⟨gIn _ [136, 137, 112, 138] (by decide +kernel) (by decide +kernel), rfl, rfl, rfl, by decide, by decide, by decide, by decide +kernel⟩
theorem lkL_143 : gLkI RL 143 m9_init 0 := ⟨gIn _ [1405, 1406, 126, 1407] (by decide +kernel) (by decide +kernel), rfl, rfl, rfl, by decide, by decide, by decide, by decide +kernel⟩
theorem lkL_144 : gLkSH RL 144 mL_append 7 := ⟨gIn _ [894, 895, 111, 896] (by decide +kernel) (by decide +kernel), by decide, by decide, rfl, by decide, by decide, by decide +kernel⟩
theorem lkL_149 : gLkV RL 149 m9_append 5 := ⟨gIn _ [1659, 1660, 1661, 126, 1662] (by decide +kernel) (by decide +kernel), rfl, by decide, by decide, by decide, by decide +kernel⟩
theorem lkL_150 : gLkV RL 150 m9_thrown 0 := ⟨gIn _ [1399, 1400, 1401, 126, 1402] (by decide +kernel) (by decide +kernel), rfl, by decide, by decide, by decide, by decide +kernel⟩
theorem lkL_153 : gLkSH RL 153 mL_truncate 3 := ⟨gIn _ [974, 975, 111, 976] (by decide +kernel) (by decide +kernel), by decide, by decide, rfl, by decide, by decide, by decide +kernel⟩
theorem lkL_156 : gLkV RL 156 m9_truncate 1 := ⟨gIn _ [1675, 1676, 1677, 126, 1678] (by decide +kernel) (by decide +kernel), rfl, by decide, by decide, by decide, by decide +kernel⟩
theorem lkL_157 : gLkV RL 157 m8_load 0 := ⟨gIn _ [740, 741, 742, 112, 743] (by decide +kernel) (by decide +kernel), rfl, by decide, by decide, by decide, by decide +kernel⟩
theorem lkL_160 : gLkV RL 160 m9_load 0 := ⟨gIn _ [1682, 1683, 1684, 126, 1685] (by decide +kernel) (by decide +kernel), rfl, by decide, by decide, by decide, by decide +kernel⟩
theorem lkL_161 : gLkV RL 161 m8_errorCode 0 := ⟨gIn _ [766, 767, 768, 112, 769] (by decide +kernel) (by decide +kernel), rfl, by decide, by decide, by decide, by decide +kernel⟩
theorem lkL_164 : gLkV RL 164 m9_errorCode 0 := ⟨gIn _ [1832, 1833, 1834, 126, 1835] (by decide +kernel) (by decide +kernel), rfl, by decide, by decide, by decide, by decide +kernel⟩
theorem lkL_165 : gLkV RL 165 m8_errorOffset 0 := ⟨gIn _ [770, 771, 772, 112, 773] (by decide +kernel) (by decide +kernel), rfl, by decide, by decide, by decide, by decide +kernel⟩
theorem lkL_168 : gLkV RL 168 m9_errorOffset 0 := ⟨gIn _ [1836, 1837, 1838, 126, 1839] (by decide +kernel) (by decide +kernel), rfl, by decide, by decide, by decide, by decide +kernel⟩
theorem lkL_169 : gLkV RL 169 m8_minute 0 := ⟨gIn _ [774, 775, 776, 112, 777] (by decide +kernel) (by decide +kernel), rfl, by decide, by decide, by decide, by decide +kernel⟩
theorem lkL_172 : gLkV RL 172 m9_minute 0 := ⟨gIn _ [1840, 1841, 1842, 126, 1843] (by decide +kernel) (by decide +kernel), rfl, by decide, by decide, by decide, by decide +kernel⟩
theorem lkL_173 : gLkV RL 173 m8_lastPrice 0 := ⟨gIn _ [778, 779, 780, 112, 781] (by decide +kernel) (by decide +kernel), rfl, by decide, by decide, by decide, by decide +kernel⟩
theorem lkL_176 : gLkV RL 176 m9_lastPrice 0 := ⟨gIn _ [1848, 1849, 1850, 126, 1851] (by decide +kernel) (by decide +kernel), rfl, by decide, by decide, by decide, by decide +kernel⟩
theorem lkL_177 : gLkV RL 177 m8_band 0 := ⟨gIn _ [782, 783, 784, 112, 785] (by decide +kernel) (by decide +kernel), rfl, by decide, by decide, by decide, by decide +kernel⟩
theorem lkL_180 : gLkV RL 180 m9_band 0 := ⟨gIn _ [1852, 1853, 1854, 126, 1855] (by decide +kernel) (by decide +kernel), rfl, by decide, by decide, by decide, by decide +kernel⟩
theorem lkL_181 : gLkV RL 181 m8_rule 0 := ⟨gIn _ [786, 787, 788, 112, 789] (by decide +kernel) (by decide +kernel), rfl, by decide, by decide, by decide, by decide +kernel⟩
theorem lkL_184 : gLkV RL 184 m9_rule 0 := ⟨gIn _ [1856, 1857, 1858, 126, 1859] (by decide +kernel) (by decide +kernel), rfl, by decide, by decide, by decide, by decide +kernel⟩
theorem lkL_185 : gLkV RL 185 m8_minutesToCry 0 := ⟨gIn _ [790, 791, 792, 112, 793] (by decide +kernel) (by decide +kernel), rfl, by decide, by decide, by decide, by decide +kernel⟩
theorem lkL_188 : gLkV RL 188 m9_minutesToCry 0 := ⟨gIn _ [1860, 1861, 1862, 126, 1863] (by decide +kernel) (by decide +kernel), rfl, by decide, by decide, by decide, by decide +kernel⟩
theorem lkL_189 : gLkV RL 189 m8_traderCount 0 := ⟨gIn _ [795, 796, 797, 112, 798] (by decide +kernel) (by decide +kernel), rfl, by decide, by decide, by decide, by decide +kernel⟩
theorem lkL_192 : gLkV RL 192 m9_traderCount 0 := ⟨gIn _ [1864, 1865, 1866, 126, 1867] (by decide +kernel) (by decide +kernel), rfl, by decide, by decide, by decide, by decide +kernel⟩
theorem lkL_193 : gLkSH RL 193 mL_coinsOf 3 := ⟨gIn _ [998, 999, 111, 1000] (by decide +kernel) (by decide +kernel), by decide, by decide, rfl, by decide, by decide, by decide +kernel⟩
theorem lkL_195 : gLkV RL 195 m9_coinsOf 1 := ⟨gIn _ [1868, 1869, 1870, 126, 1871] (by decide +kernel) (by decide +kernel), rfl, by decide, by decide, by decide, by decide +kernel⟩
theorem lkL_196 : gLkSH RL 196 mL_goodsOf 3 := ⟨gIn _ [1026, 1027, 111, 1028] (by decide +kernel) (by decide +kernel), by decide, by decide, rfl, by decide, by decide, by decide +kernel⟩
theorem lkL_198 : gLkV RL 198 m9_goodsOf 1 := ⟨gIn _ [1876, 1877, 1878, 126, 1879] (by decide +kernel) (by decide +kernel), rfl, by decide, by decide, by decide, by decide +kernel⟩
theorem lkL_199 : gLkSH RL 199 mL_freeCoins 3 := ⟨gIn _ [1033, 1034, 111, 1035] (by decide +kernel) (by decide +kernel), by decide, by decide, rfl, by decide, by decide, by decide +kernel⟩
theorem lkL_201 : gLkV RL 201 m9_freeCoins 1 := ⟨gIn _ [1880, 1881, 1882, 126, 1883] (by decide +kernel) (by decide +kernel), rfl, by decide, by decide, by decide, by decide +kernel⟩
theorem lkL_202 : gLkSH RL 202 mL_freeGoods 3 := ⟨gIn _ [1041, 1042, 111, 1043] (by decide +kernel) (by decide +kernel), by decide, by decide, rfl, by decide, by decide, by decide +kernel⟩
theorem lkL_204 : gLkV RL 204 m9_freeGoods 1 := ⟨gIn _ [1884, 1885, 1886, 126, 1887] (by decide +kernel) (by decide +kernel), rfl, by decide, by decide, by decide, by decide +kernel⟩
theorem lkL_205 : gLkV RL 205 m8_orderCount 0 := ⟨gIn _ [799, 800, 801, 112, 802] (by decide +kernel) (by decide +kernel), rfl, by decide, by decide, by decide, by decide +kernel⟩
theorem lkL_208 : gLkV RL 208 m9_orderCount 0 := ⟨gIn _ [1888, 1889, 1890, 126, 1891] (by decide +kernel) (by decide +kernel), rfl, by decide, by decide, by decide, by decide +kernel⟩
theorem lkL_209 : gLkSH RL 209 mL_orderAt 3 := ⟨gIn _ [1049, 1050, 111, 1051] (by decide +kernel) (by decide +kernel), by decide, by decide, rfl, by decide, by decide, by decide +kernel⟩
theorem lkL_211 : gLkV RL 211 m9_orderAt 1 := ⟨gIn _ [1892, 1893, 1894, 126, 1895] (by decide +kernel) (by decide +kernel), rfl, by decide, by decide, by decide, by decide +kernel⟩
theorem lkL_212 : gLkSH RL 212 mL_traderOf 3 := ⟨gIn _ [1057, 1058, 111, 1059] (by decide +kernel) (by decide +kernel), by decide, by decide, rfl, by decide, by decide, by decide +kernel⟩
theorem lkL_214 : gLkV RL 214 m9_traderOf 1 := ⟨gIn _ [1896, 1897, 1898, 126, 1899] (by decide +kernel) (by decide +kernel), rfl, by decide, by decide, by decide, by decide +kernel⟩
theorem lkL_215 : gLkSH RL 215 mL_sideOf 3 := ⟨gIn _ [1085, 1086, 111, 1087] (by decide +kernel) (by decide +kernel), by decide, by decide, rfl, by decide, by decide, by decide +kernel⟩
theorem lkL_217 : gLkV RL 217 m9_sideOf 1 := ⟨gIn _ [1908, 1909, 1910, 126, 1911] (by decide +kernel) (by decide +kernel), rfl, by decide, by decide, by decide, by decide +kernel⟩
theorem lkL_218 : gLkSH RL 218 mL_limitOf 3 := ⟨gIn _ [1092, 1093, 111, 1094] (by decide +kernel) (by decide +kernel), by decide, by decide, rfl, by decide, by decide, by decide +kernel⟩
theorem lkL_220 : gLkV RL 220 m9_limitOf 1 := ⟨gIn _ [1912, 1913, 1914, 126, 1915] (by decide +kernel) (by decide +kernel), rfl, by decide, by decide, by decide, by decide +kernel⟩
theorem lkL_221 : gLkSH RL 221 mL_quantityOf 3 := ⟨gIn _ [1099, 1100, 111, 1101] (by decide +kernel) (by decide +kernel), by decide, by decide, rfl, by decide, by decide, by decide +kernel⟩
theorem lkL_223 : gLkV RL 223 m9_quantityOf 1 := ⟨gIn _ [1916, 1917, 1918, 126, 1919] (by decide +kernel) (by decide +kernel), rfl, by decide, by decide, by decide, by decide +kernel⟩
theorem lkL_224 : gLkSH RL 224 mL_minutesLeft 3 := ⟨gIn _ [1106, 1107, 111, 1108] (by decide +kernel) (by decide +kernel), by decide, by decide, rfl, by decide, by decide, by decide +kernel⟩
theorem lkL_226 : gLkV RL 226 m9_minutesLeft 1 := ⟨gIn _ [1920, 1921, 1922, 126, 1923] (by decide +kernel) (by decide +kernel), rfl, by decide, by decide, by decide, by decide +kernel⟩
theorem lkL_227 : gLkSH RL 227 mL_rankOf 3 := ⟨gIn _ [1113, 1114, 111, 1115] (by decide +kernel) (by decide +kernel), by decide, by decide, rfl, by decide, by decide, by decide +kernel⟩
theorem lkL_229 : gLkV RL 229 m9_rankOf 1 := ⟨gIn _ [1924, 1925, 1926, 126, 1927] (by decide +kernel) (by decide +kernel), rfl, by decide, by decide, by decide, by decide +kernel⟩
theorem lkL_230 : gLkSH RL 230 mL_demandAt 3 := ⟨gIn _ [1124, 1125, 111, 1126] (by decide +kernel) (by decide +kernel), by decide, by decide, rfl, by decide, by decide, by decide +kernel⟩
theorem lkL_232 : gLkV RL 232 m9_demandAt 1 := ⟨gIn _ [1928, 1929, 1930, 126, 1931] (by decide +kernel) (by decide +kernel), rfl, by decide, by decide, by decide, by decide +kernel⟩
theorem lkL_233 : gLkSH RL 233 mL_supplyAt 3 := ⟨gIn _ [1140, 1141, 111, 1142] (by decide +kernel) (by decide +kernel), by decide, by decide, rfl, by decide, by decide, by decide +kernel⟩
theorem lkL_235 : gLkV RL 235 m9_supplyAt 1 := ⟨gIn _ [1936, 1937, 1938, 126, 1939] (by decide +kernel) (by decide +kernel), rfl, by decide, by decide, by decide, by decide +kernel⟩
theorem lkL_236 : gLkSH RL 236 mL_volumeAt 3 := ⟨gIn _ [1151, 1152, 111, 1153] (by decide +kernel) (by decide +kernel), by decide, by decide, rfl, by decide, by decide, by decide +kernel⟩
theorem lkL_238 : gLkV RL 238 m9_volumeAt 1 := ⟨gIn _ [1940, 1941, 1942, 126, 1943] (by decide +kernel) (by decide +kernel), rfl, by decide, by decide, by decide, by decide +kernel⟩
theorem lkL_239 : gLkSH RL 239 mL_excessAt 3 := ⟨gIn _ [1159, 1160, 111, 1161] (by decide +kernel) (by decide +kernel), by decide, by decide, rfl, by decide, by decide, by decide +kernel⟩
theorem lkL_241 : gLkV RL 241 m9_excessAt 1 := ⟨gIn _ [1944, 1945, 1946, 126, 1947] (by decide +kernel) (by decide +kernel), rfl, by decide, by decide, by decide, by decide +kernel⟩
theorem lkL_242 : gLkV RL 242 m8_bestBid 0 := ⟨gIn _ [803, 804, 805, 112, 806] (by decide +kernel) (by decide +kernel), rfl, by decide, by decide, by decide, by decide +kernel⟩
theorem lkL_245 : gLkV RL 245 m9_bestBid 0 := ⟨gIn _ [1948, 1949, 1950, 126, 1951] (by decide +kernel) (by decide +kernel), rfl, by decide, by decide, by decide, by decide +kernel⟩
theorem lkL_246 : gLkV RL 246 m8_bestOffer 0 := ⟨gIn _ [813, 814, 815, 112, 816] (by decide +kernel) (by decide +kernel), rfl, by decide, by decide, by decide, by decide +kernel⟩
theorem lkL_249 : gLkV RL 249 m9_bestOffer 0 := ⟨gIn _ [1956, 1957, 1958, 126, 1959] (by decide +kernel) (by decide +kernel), rfl, by decide, by decide, by decide, by decide +kernel⟩
theorem lkL_250 : gLkV RL 250 m8_cryPrice 0 := ⟨gIn _ [817, 818, 819, 112, 820] (by decide +kernel) (by decide +kernel), rfl, by decide, by decide, by decide, by decide +kernel⟩
theorem lkL_253 : gLkV RL 253 m9_cryPrice 0 := ⟨gIn _ [1968, 1969, 1970, 126, 1971] (by decide +kernel) (by decide +kernel), rfl, by decide, by decide, by decide, by decide +kernel⟩
theorem lkL_254 : gLkV RL 254 m8_cryVolume 0 := ⟨gIn _ [827, 828, 829, 112, 830] (by decide +kernel) (by decide +kernel), rfl, by decide, by decide, by decide, by decide +kernel⟩
theorem lkL_257 : gLkV RL 257 m9_cryVolume 0 := ⟨gIn _ [1972, 1973, 1974, 126, 1975] (by decide +kernel) (by decide +kernel), rfl, by decide, by decide, by decide, by decide +kernel⟩
theorem lkL_258 : gLkV RL 258 m8_wouldStop 0 := ⟨gIn _ [831, 832, 833, 112, 834] (by decide +kernel) (by decide +kernel), rfl, by decide, by decide, by decide, by decide +kernel⟩
theorem lkL_262 : gLkV RL 262 m9_wouldStop 0 := ⟨gIn _ [1980, 1981, 1982, 126, 1983] (by decide +kernel) (by decide +kernel), rfl, by decide, by decide, by decide, by decide +kernel⟩
theorem lkL_263 : gLkSH RL 263 mL_fillOf 3 := ⟨gIn _ [1166, 1167, 111, 1168] (by decide +kernel) (by decide +kernel), by decide, by decide, rfl, by decide, by decide, by decide +kernel⟩
theorem lkL_265 : gLkV RL 265 m9_fillOf 1 := ⟨gIn _ [1984, 1985, 1986, 126, 1987] (by decide +kernel) (by decide +kernel), rfl, by decide, by decide, by decide, by decide +kernel⟩
theorem lkL_266 : gLkV RL 266 m8_partialFills 0 := ⟨gIn _ [836, 837, 838, 112, 839] (by decide +kernel) (by decide +kernel), rfl, by decide, by decide, by decide, by decide +kernel⟩
theorem lkL_269 : gLkV RL 269 m9_partialFills 0 := ⟨gIn _ [1992, 1993, 1994, 126, 1995] (by decide +kernel) (by decide +kernel), rfl, by decide, by decide, by decide, by decide +kernel⟩
theorem lkL_270 : gLkSH RL 270 mL_lastLimit 3 := ⟨gIn _ [1173, 1174, 111, 1175] (by decide +kernel) (by decide +kernel), by decide, by decide, rfl, by decide, by decide, by decide +kernel⟩
theorem lkL_272 : gLkV RL 272 m9_lastLimit 1 := ⟨gIn _ [1996, 1997, 1998, 126, 1999] (by decide +kernel) (by decide +kernel), rfl, by decide, by decide, by decide, by decide +kernel⟩
theorem lkL_273 : gLkSH RL 273 mL_priceWithout 3 := ⟨gIn _ [1184, 1185, 111, 1186] (by decide +kernel) (by decide +kernel), by decide, by decide, rfl, by decide, by decide, by decide +kernel⟩
theorem lkL_275 : gLkV RL 275 m9_priceWithout 1 := ⟨gIn _ [2007, 2008, 2009, 126, 2010] (by decide +kernel) (by decide +kernel), rfl, by decide, by decide, by decide, by decide +kernel⟩
theorem lkL_276 : gLkSH RL 276 mL_volumeWithout 3 := ⟨gIn _ [1199, 1200, 111, 1201] (by decide +kernel) (by decide +kernel), by decide, by decide, rfl, by decide, by decide, by decide +kernel⟩
theorem lkL_278 : gLkV RL 278 m9_volumeWithout 1 := ⟨gIn _ [2023, 2024, 2025, 126, 2026] (by decide +kernel) (by decide +kernel), rfl, by decide, by decide, by decide, by decide +kernel⟩
theorem lkL_279 : gLkSH RL 279 mL_priceWith 5 := ⟨gIn _ [1206, 1207, 111, 1208] (by decide +kernel) (by decide +kernel), by decide, by decide, rfl, by decide, by decide, by decide +kernel⟩
theorem lkL_282 : gLkV RL 282 m9_priceWith 3 := ⟨gIn _ [2027, 2028, 2029, 126, 2030] (by decide +kernel) (by decide +kernel), rfl, by decide, by decide, by decide, by decide +kernel⟩
theorem lkL_283 : gLkSH RL 283 mL_fillWith 5 := ⟨gIn _ [1225, 1226, 111, 1227] (by decide +kernel) (by decide +kernel), by decide, by decide, rfl, by decide, by decide, by decide +kernel⟩
theorem lkL_285 : gLkV RL 285 m9_fillWith 3 := ⟨gIn _ [2043, 2044, 2045, 126, 2046] (by decide +kernel) (by decide +kernel), rfl, by decide, by decide, by decide, by decide +kernel⟩
theorem lkL_286 : gLkSH RL 286 mL_priceToBuy 3 := ⟨gIn _ [1236, 1237, 111, 1238] (by decide +kernel) (by decide +kernel), by decide, by decide, rfl, by decide, by decide, by decide +kernel⟩
theorem lkL_288 : gLkV RL 288 m9_priceToBuy 1 := ⟨gIn _ [1960, 1961, 1962, 126, 1963] (by decide +kernel) (by decide +kernel), rfl, by decide, by decide, by decide, by decide +kernel⟩
theorem lkL_289 : gLkSH RL 289 mL_priceToSell 3 := ⟨gIn _ [1248, 1249, 111, 1250] (by decide +kernel) (by decide +kernel), by decide, by decide, rfl, by decide, by decide, by decide +kernel⟩
theorem lkL_291 : gLkV RL 291 m9_priceToSell 1 := ⟨gIn _ [1964, 1965, 1966, 126, 1967] (by decide +kernel) (by decide +kernel), rfl, by decide, by decide, by decide, by decide +kernel⟩
theorem lkL_292 : gLkSH RL 292 mL_orderRefusal 6 := ⟨gIn _ [1260, 1261, 111, 1262] (by decide +kernel) (by decide +kernel), by decide, by decide, rfl, by decide, by decide, by decide +kernel⟩
theorem lkL_295 : gLkV RL 295 m9_orderRefusal 4 := ⟨gIn _ [2047, 2048, 2049, 126, 2050] (by decide +kernel) (by decide +kernel), rfl, by decide, by decide, by decide, by decide +kernel⟩
theorem lkL_296 : gLkSH RL 296 mL_worthOf 3 := ⟨gIn _ [1268, 1269, 111, 1270] (by decide +kernel) (by decide +kernel), by decide, by decide, rfl, by decide, by decide, by decide +kernel⟩
theorem lkL_298 : gLkV RL 298 m9_worthOf 1 := ⟨gIn _ [1988, 1989, 1990, 126, 1991] (by decide +kernel) (by decide +kernel), rfl, by decide, by decide, by decide, by decide +kernel⟩
theorem lkL_299 : gLkSH RL 299 mL_coinsAfterCry 3 := ⟨gIn _ [1275, 1276, 111, 1277] (by decide +kernel) (by decide +kernel), by decide, by decide, rfl, by decide, by decide, by decide +kernel⟩
theorem lkL_301 : gLkV RL 301 m9_coinsAfterCry 1 := ⟨gIn _ [2003, 2004, 2005, 126, 2006] (by decide +kernel) (by decide +kernel), rfl, by decide, by decide, by decide, by decide +kernel⟩
theorem lkL_302 : gLkV RL 302 m8_tradedPieces 0 := ⟨gIn _ [844, 845, 846, 112, 847] (by decide +kernel) (by decide +kernel), rfl, by decide, by decide, by decide, by decide +kernel⟩
theorem lkL_305 : gLkV RL 305 m9_tradedPieces 0 := ⟨gIn _ [2055, 2056, 2057, 126, 2058] (by decide +kernel) (by decide +kernel), rfl, by decide, by decide, by decide, by decide +kernel⟩
theorem lkL_306 : gLkV RL 306 m8_goodCries 0 := ⟨gIn _ [848, 849, 850, 112, 851] (by decide +kernel) (by decide +kernel), rfl, by decide, by decide, by decide, by decide +kernel⟩
theorem lkL_309 : gLkV RL 309 m9_goodCries 0 := ⟨gIn _ [2059, 2060, 2061, 126, 2062] (by decide +kernel) (by decide +kernel), rfl, by decide, by decide, by decide, by decide +kernel⟩
theorem lkL_310 : gLkV RL 310 m8_stoppedCries 0 := ⟨gIn _ [852, 853, 854, 112, 855] (by decide +kernel) (by decide +kernel), rfl, by decide, by decide, by decide, by decide +kernel⟩
theorem lkL_313 : gLkV RL 313 m9_stoppedCries 0 := ⟨gIn _ [2063, 2064, 2065, 126, 2066] (by decide +kernel) (by decide +kernel), rfl, by decide, by decide, by decide, by decide +kernel⟩
theorem lkL_314 : gLkV RL 314 m8_lateOrders 0 := ⟨gIn _ [856, 857, 858, 112, 859] (by decide +kernel) (by decide +kernel), rfl, by decide, by decide, by decide, by decide +kernel⟩
theorem lkL_317 : gLkV RL 317 m9_lateOrders 0 := ⟨gIn _ [2067, 2068, 2069, 126, 2070] (by decide +kernel) (by decide +kernel), rfl, by decide, by decide, by decide, by decide +kernel⟩
theorem lkL_318 : gLkV RL 318 m8_coinDifference 0 := ⟨gIn _ [860, 861, 862, 112, 863] (by decide +kernel) (by decide +kernel), rfl, by decide, by decide, by decide, by decide +kernel⟩
theorem lkL_321 : gLkV RL 321 m9_coinDifference 0 := ⟨gIn _ [2071, 2072, 2073, 126, 2074] (by decide +kernel) (by decide +kernel), rfl, by decide, by decide, by decide, by decide +kernel⟩
theorem lkL_322 : gLkV RL 322 m8_goodDifference 0 := ⟨gIn _ [868, 869, 870, 112, 871] (by decide +kernel) (by decide +kernel), rfl, by decide, by decide, by decide, by decide +kernel⟩
theorem lkL_325 : gLkV RL 325 m9_goodDifference 0 := ⟨gIn _ [2079, 2080, 2081, 126, 2082] (by decide +kernel) (by decide +kernel), rfl, by decide, by decide, by decide, by decide +kernel⟩
theorem lkL_326 : gLkV RL 326 m8_tradedShare 0 := ⟨gIn _ [881, 882, 883, 112, 884] (by decide +kernel) (by decide +kernel), rfl, by decide, by decide, by decide, by decide +kernel⟩
theorem lkL_330 : gLkV RL 330 m9_tradedShare 0 := ⟨gIn _ [2083, 2084, 2085, 126, 2086] (by decide +kernel) (by decide +kernel), rfl, by decide, by decide, by decide, by decide +kernel⟩
theorem lkL_331 : gLkV RL 331 m8_meanPrice 0 := ⟨gIn _ [885, 886, 887, 112, 888] (by decide +kernel) (by decide +kernel), rfl, by decide, by decide, by decide, by decide +kernel⟩
theorem lkL_335 : gLkV RL 335 m9_meanPrice 0 := ⟨gIn _ [2087, 2088, 2089, 126, 2090] (by decide +kernel) (by decide +kernel), rfl, by decide, by decide, by decide, by decide +kernel⟩
theorem lkL_336 : gLkSH RL 336 mL_place 7 := ⟨gIn _ [1286, 1287, 111, 1288] (by decide +kernel) (by decide +kernel), by decide, by decide, rfl, by decide, by decide, by decide +kernel⟩
theorem lkL_338 : gLkV RL 338 m9_place 5 := ⟨gIn _ [2091, 2092, 2093, 126, 2094] (by decide +kernel) (by decide +kernel), rfl, by decide, by decide, by decide, by decide +kernel⟩
theorem lkL_339 : gLkSH RL 339 mL_withdraw 3 := ⟨gIn _ [1295, 1296, 111, 1297] (by decide +kernel) (by decide +kernel), by decide, by decide, rfl, by decide, by decide, by decide +kernel⟩
theorem lkL_341 : gLkV RL 341 m9_withdraw 1 := ⟨gIn _ [2095, 2096, 2097, 126, 2098] (by decide +kernel) (by decide +kernel), rfl, by decide, by decide, by decide, by decide +kernel⟩
theorem lkL_342 : gLkSH RL 342 mL_setRule 3 := ⟨gIn _ [1303, 1304, 111, 1305] (by decide +kernel) (by decide +kernel), by decide, by decide, rfl, by decide, by decide, by decide +kernel⟩
theorem lkL_344 : gLkV RL 344 m9_setRule 1 := ⟨gIn _ [2099, 2100, 2101, 126, 2102] (by decide +kernel) (by decide +kernel), rfl, by decide, by decide, by decide, by decide +kernel⟩
theorem lkL_345 : gLkSH RL 345 mL_setBand 3 := ⟨gIn _ [1310, 1311, 111, 1312] (by decide +kernel) (by decide +kernel), by decide, by decide, rfl, by decide, by decide, by decide +kernel⟩
theorem lkL_347 : gLkV RL 347 m9_setBand 1 := ⟨gIn _ [2107, 2108, 2109, 126, 2110] (by decide +kernel) (by decide +kernel), rfl, by decide, by decide, by decide, by decide +kernel⟩
theorem lkL_348 : gLkSH RL 348 mL_pay 4 := ⟨gIn _ [1317, 1318, 111, 1319] (by decide +kernel) (by decide +kernel), by decide, by decide, rfl, by decide, by decide, by decide +kernel⟩
theorem lkL_351 : gLkV RL 351 m9_pay 2 := ⟨gIn _ [2111, 2112, 2113, 126, 2114] (by decide +kernel) (by decide +kernel), rfl, by decide, by decide, by decide, by decide +kernel⟩
theorem lkL_352 : gLkV RL 352 m8_cry 0 := ⟨gIn _ [889, 890, 891, 112, 892] (by decide +kernel) (by decide +kernel), rfl, by decide, by decide, by decide, by decide +kernel⟩
theorem lkL_355 : gLkV RL 355 m9_cry 0 := ⟨gIn _ [2116, 2117, 2118, 126, 2119] (by decide +kernel) (by decide +kernel), rfl, by decide, by decide, by decide, by decide +kernel⟩
theorem lkL_356 : gLkSH RL 356 mL_pass 3 := ⟨gIn _ [1327, 1328, 111, 1329] (by decide +kernel) (by decide +kernel), by decide, by decide, rfl, by decide, by decide, by decide +kernel⟩
theorem lkL_358 : gLkV RL 358 m9_pass 1 := ⟨gIn _ [2120, 2121, 2122, 126, 2123] (by decide +kernel) (by decide +kernel), rfl, by decide, by decide, by decide, by decide +kernel⟩
theorem lkL_359 : gLkSH RL 359 mL_save 3 := ⟨gIn _ [1335, 1336, 111, 1337] (by decide +kernel) (by decide +kernel), by decide, by decide, rfl, by decide, by decide, by decide +kernel⟩
theorem lkL_361 : gLkV RL 361 m9_save 1 := ⟨gIn _ [2125, 2126, 2127, 126, 2128] (by decide +kernel) (by decide +kernel), rfl, by decide, by decide, by decide, by decide +kernel⟩
theorem lkL_362 : gLkSH RL 362 mL_restore 3 := ⟨gIn _ [1347, 1348, 111, 1349] (by decide +kernel) (by decide +kernel), by decide, by decide, rfl, by decide, by decide, by decide +kernel⟩
theorem lkL_364 : gLkV RL 364 m9_restore 1 := ⟨gIn _ [2129, 2130, 2131, 126, 2132] (by decide +kernel) (by decide +kernel), rfl, by decide, by decide, by decide, by decide +kernel⟩
theorem lkL_365 : gLkSH RL 365 mL_undo 2 := ⟨gIn _ [1355, 1356, 111, 1357] (by decide +kernel) (by decide +kernel), by decide, by decide, rfl, by decide, by decide, by decide +kernel⟩
theorem lkL_368 : gLkV RL 368 m9_undo 0 := ⟨gIn _ [2133, 2134, 2135, 126, 2136] (by decide +kernel) (by decide +kernel), rfl, by decide, by decide, by decide, by decide +kernel⟩
theorem lkL_369 : gLkSH RL 369 mL_printSide 3 := ⟨gIn _ [1367, 1368, 111, 1369] (by decide +kernel) (by decide +kernel), by decide, by decide, rfl, by decide, by decide, by decide +kernel⟩
theorem lkL_371 : gLkV RL 371 m9_printSide 1 := ⟨gIn _ [2137, 2138, 2139, 126, 2140] (by decide +kernel) (by decide +kernel), rfl, by decide, by decide, by decide, by decide +kernel⟩
theorem lkL_372 : gLkSH RL 372 mL_outputByte 3 := ⟨gIn _ [1391, 1392, 111, 1393] (by decide +kernel) (by decide +kernel), by decide, by decide, rfl, by decide, by decide, by decide +kernel⟩
theorem lkL_374 : gLkV RL 374 m9_outputByte 1 := ⟨gIn _ [2165, 2166, 2167, 126, 2168] (by decide +kernel) (by decide +kernel), rfl, by decide, by decide, by decide, by decide +kernel⟩
end LAW0
