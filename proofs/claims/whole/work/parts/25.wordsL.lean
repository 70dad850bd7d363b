theorem xin01 : vp_in 0 1 := by unfold vp_in; decide
theorem wd_543 : Cond.methodLink "FilterRowsLaw" 7 yX4_put ∈ lw_w := lw_in 351 (by decide +kernel) (by decide +kernel)
theorem wd_544 : Cond.classLink "FilterRowsLaw" 13 "java/lang/IndexOutOfBoundsException" ∈ lw_w := lw_in 349 (by decide +kernel) (by decide +kernel)
theorem wd_545 : Cond.classLink "FilterRowsLaw" 15 "java/lang/IllegalArgumentException" ∈ lw_w := lw_in 350 (by decide +kernel) (by decide +kernel)
set_option maxRecDepth 100000 in
theorem wd_546 : Cond.codeWith yL_put cL_put 7 (some .int) [(0, 14, 17, 13), (0, 14, 21, 15)] ∈ lw_w := lw_in 348 (rfl) (by decide +kernel)
theorem wd_547 : Cond.initialized "FilterRowsLaw" ∈ lw_w := lw_in 32 (by decide +kernel) (by decide +kernel)
theorem wd_548 : Cond.static yL_put ∈ lw_w := lw_in 347 (by decide +kernel) (by decide +kernel)
theorem wd_549 : Cond.methodLink "FilterRowsLaw" 17 yX4_at ∈ lw_w := lw_in 456 (by decide +kernel) (by decide +kernel)
set_option maxRecDepth 100000 in
theorem wd_550 : Cond.codeWith yL_at cL_at 6 (some .int) [(0, 12, 15, 13)] ∈ lw_w := lw_in 455 (rfl) (by decide +kernel)
theorem wd_551 : Cond.static yL_at ∈ lw_w := lw_in 454 (by decide +kernel) (by decide +kernel)
theorem wd_552 : Cond.methodLink "FilterRowsLaw" 21 yX4_pass ∈ lw_w := lw_in 464 (by decide +kernel) (by decide +kernel)
set_option maxRecDepth 100000 in
theorem wd_553 : Cond.codeWith yL_pass cL_pass 5 (some .int) [(0, 10, 13, 15)] ∈ lw_w := lw_in 463 (rfl) (by decide +kernel)
theorem wd_554 : Cond.static yL_pass ∈ lw_w := lw_in 462 (by decide +kernel) (by decide +kernel)
theorem wd_555 : Cond.methodLink "FilterRowsLaw" 25 yX4_filtered ∈ lw_w := lw_in 477 (by decide +kernel) (by decide +kernel)
set_option maxRecDepth 100000 in
theorem wd_556 : Cond.codeWith yL_filtered cL_filtered 7 (some .int) [(0, 14, 17, 15), (0, 14, 21, 13)] ∈ lw_w := lw_in 476 (rfl) (by decide +kernel)
theorem wd_557 : Cond.static yL_filtered ∈ lw_w := lw_in 475 (by decide +kernel) (by decide +kernel)
theorem wd_558 : Cond.methodLink "FilterRowsLaw" 28 yX4_worth ∈ lw_w := lw_in 504 (by decide +kernel) (by decide +kernel)
set_option maxRecDepth 100000 in
theorem wd_559 : Cond.codeWith yL_worth cL_worth 7 (some .int) [(0, 14, 17, 15), (0, 14, 21, 13)] ∈ lw_w := lw_in 503 (rfl) (by decide +kernel)
theorem wd_560 : Cond.static yL_worth ∈ lw_w := lw_in 502 (by decide +kernel) (by decide +kernel)
theorem wd_561 : Cond.methodLink "FilterRowsLaw" 31 yX4_encode ∈ lw_w := lw_in 530 (by decide +kernel) (by decide +kernel)
set_option maxRecDepth 100000 in
theorem wd_562 : Cond.codeWith yL_encode cL_encode 6 (some .int) [(0, 12, 15, 15)] ∈ lw_w := lw_in 529 (rfl) (by decide +kernel)
theorem wd_563 : Cond.static yL_encode ∈ lw_w := lw_in 528 (by decide +kernel) (by decide +kernel)
theorem wd_564 : Cond.methodLink "FilterRowsLaw" 35 yX4_byteAt ∈ lw_w := lw_in 552 (by decide +kernel) (by decide +kernel)
set_option maxRecDepth 100000 in
theorem wd_565 : Cond.codeWith yL_byteAt cL_byteAt 4 (some .int) [(0, 9, 12, 13)] ∈ lw_w := lw_in 551 (rfl) (by decide +kernel)
theorem wd_566 : Cond.static yL_byteAt ∈ lw_w := lw_in 550 (by decide +kernel) (by decide +kernel)
theorem wd_567 : Cond.methodLink "FilterRowsLaw" 39 yX4_chosen ∈ lw_w := lw_in 560 (by decide +kernel) (by decide +kernel)
set_option maxRecDepth 100000 in
theorem wd_568 : Cond.codeWith yL_chosen cL_chosen 4 (some .int) [(0, 9, 12, 15)] ∈ lw_w := lw_in 559 (rfl) (by decide +kernel)
theorem wd_569 : Cond.static yL_chosen ∈ lw_w := lw_in 558 (by decide +kernel) (by decide +kernel)
theorem wd_570 : Cond.methodLink "FilterRowsLaw" 42 yX4_feed ∈ lw_w := lw_in 569 (by decide +kernel) (by decide +kernel)
theorem wd_571 : Cond.classLink "FilterRowsLaw" 45 "java/lang/UnsupportedOperationException" ∈ lw_w := lw_in 568 (by decide +kernel) (by decide +kernel)
set_option maxRecDepth 100000 in
theorem wd_572 : Cond.codeWith yL_feed cL_feed 4 (some .int) [(0, 9, 12, 15), (0, 9, 15, 45)] ∈ lw_w := lw_in 567 (rfl) (by decide +kernel)
theorem wd_573 : Cond.static yL_feed ∈ lw_w := lw_in 566 (by decide +kernel) (by decide +kernel)
theorem wd_574 : Cond.methodLink "FilterRowsLaw" 47 yX4_passOn ∈ lw_w := lw_in 597 (by decide +kernel) (by decide +kernel)
set_option maxRecDepth 100000 in
theorem wd_575 : Cond.codeWith yL_passOn cL_passOn 3 (some .int) [(0, 8, 11, 45)] ∈ lw_w := lw_in 596 (rfl) (by decide +kernel)
theorem wd_576 : Cond.static yL_passOn ∈ lw_w := lw_in 595 (by decide +kernel) (by decide +kernel)
theorem wd_577 : Cond.methodLink "FilterRowsLaw" 51 yX4_clean ∈ lw_w := lw_in 605 (by decide +kernel) (by decide +kernel)
theorem wd_578 : Cond.classLink "FilterRowsLaw" 54 "java/lang/IllegalStateException" ∈ lw_w := lw_in 604 (by decide +kernel) (by decide +kernel)
set_option maxRecDepth 100000 in
theorem wd_579 : Cond.codeWith yL_clean cL_clean 3 (some .int) [(0, 8, 11, 54)] ∈ lw_w := lw_in 603 (rfl) (by decide +kernel)
theorem wd_580 : Cond.static yL_clean ∈ lw_w := lw_in 602 (by decide +kernel) (by decide +kernel)
theorem wd_581 : Cond.methodLink "FilterRowsLaw" 56 yX4_colour ∈ lw_w := lw_in 641 (by decide +kernel) (by decide +kernel)
set_option maxRecDepth 100000 in
theorem wd_582 : Cond.codeWith yL_colour cL_colour 4 (some .int) [(0, 9, 12, 15), (0, 9, 15, 45)] ∈ lw_w := lw_in 640 (rfl) (by decide +kernel)
theorem wd_583 : Cond.static yL_colour ∈ lw_w := lw_in 639 (by decide +kernel) (by decide +kernel)
theorem wd_584 : Cond.methodLink "FilterRowsLaw" 59 yX4_order ∈ lw_w := lw_in 655 (by decide +kernel) (by decide +kernel)
set_option maxRecDepth 100000 in
theorem wd_585 : Cond.codeWith yL_order cL_order 4 (some .int) [(0, 9, 12, 13)] ∈ lw_w := lw_in 654 (rfl) (by decide +kernel)
theorem wd_586 : Cond.static yL_order ∈ lw_w := lw_in 653 (by decide +kernel) (by decide +kernel)
