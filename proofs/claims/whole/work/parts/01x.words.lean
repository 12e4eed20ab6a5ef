/-! ===== WHERE THE WORDS STAND IN THE TABLES (by program) ===== -/
theorem wn_RX0 : Cond.initialized RX0 ∈ mGW := mIn 3 (by decide +kernel) rfl
theorem wn_RX1 : Cond.initialized RX1 ∈ mGW := mIn 5 (by decide +kernel) rfl
theorem wn_RX2 : Cond.initialized RX2 ∈ mGW := mIn 6 (by decide +kernel) rfl
theorem wn_RX3 : Cond.initialized RX3 ∈ mGW := mIn 7 (by decide +kernel) rfl
theorem wn_RX4 : Cond.initialized RX4 ∈ mGW := mIn 12 (by decide +kernel) rfl
theorem wn_RX5 : Cond.initialized RX5 ∈ mGW := mIn 4 (by decide +kernel) rfl
theorem wn_RX6 : Cond.initialized RX6 ∈ mGW := mIn 2 (by decide +kernel) rfl
theorem wn_RX7 : Cond.initialized RX7 ∈ mGW := mIn 1 (by decide +kernel) rfl
theorem wn_RX8 : Cond.initialized RX8 ∈ mGW := mIn 13 (by decide +kernel) rfl
theorem wn_RJ5 : Cond.initialized RJ5 ∈ mGW := mIn 8 (by decide +kernel) rfl
theorem wn_RJ6 : Cond.initialized RJ6 ∈ mGW := mIn 18 (by decide +kernel) rfl
theorem wn_RJ9 : Cond.initialized RJ9 ∈ mGW := mIn 16 (by decide +kernel) rfl
theorem wn_RJ0 : Cond.initialized RJ0 ∈ mGW := mIn 10 (by decide +kernel) rfl
theorem wn_RJ4 : Cond.initialized RJ4 ∈ mGW := mIn 9 (by decide +kernel) rfl
theorem wn_RJ1 : Cond.initialized RJ1 ∈ mGW := mIn 14 (by decide +kernel) rfl
theorem wn_RJ2 : Cond.initialized RJ2 ∈ mGW := mIn 11 (by decide +kernel) rfl
theorem wn_RJ10 : Cond.initialized RJ10 ∈ mGW := mIn 17 (by decide +kernel) rfl
theorem wn_RJ7 : Cond.initialized RJ7 ∈ mGW := mIn 20 (by decide +kernel) rfl
theorem wn_RJ8 : Cond.initialized RJ8 ∈ mGW := mIn 19 (by decide +kernel) rfl
theorem wn_RJ3 : Cond.initialized RJ3 ∈ mGW := mIn 15 (by decide +kernel) rfl
theorem wn_RL : Cond.initialized RL ∈ mGW := mIn 0 (by decide +kernel) rfl
theorem wc_X0_init : Cond.code yX0_init cX0_init 1 (none) ∈ mGW := mIn 67 (by decide +kernel) rfl
theorem wi_X0_init : Cond.instanceMethod yX0_init ∈ mGW := mIn 66 (by decide +kernel) rfl
theorem wd_X0_init : yX0_init.cls ≠ "java/lang/invoke/MethodHandle" ∧ yX0_init.cls ≠ "java/lang/invoke/VarHandle" ∧ (parseMethodDescriptor yX0_init.desc).map (fun d => d.parameters.length) = some 0 := by decide +kernel
theorem wc_X0_add : Cond.code yX0_add cX0_add 5 (none) ∈ mGW := mIn 594 (by decide +kernel) rfl
theorem wi_X0_add : Cond.instanceMethod yX0_add ∈ mGW := mIn 592 (by decide +kernel) rfl
theorem wl_X0_add : Cond.selects RX0 yX0_add yX0_add ∈ mGW := mIn 593 (by decide +kernel) rfl
theorem wd_X0_add : yX0_add.cls ≠ "java/lang/invoke/MethodHandle" ∧ yX0_add.cls ≠ "java/lang/invoke/VarHandle" ∧ (parseMethodDescriptor yX0_add.desc).map (fun d => d.parameters.length) = some 4 := by decide +kernel
theorem wc_X0_become : Cond.code yX0_become cX0_become 2 (none) ∈ mGW := mIn 996 (by decide +kernel) rfl
theorem wi_X0_become : Cond.instanceMethod yX0_become ∈ mGW := mIn 994 (by decide +kernel) rfl
theorem wl_X0_become : Cond.selects RX0 yX0_become yX0_become ∈ mGW := mIn 995 (by decide +kernel) rfl
theorem wd_X0_become : yX0_become.cls ≠ "java/lang/invoke/MethodHandle" ∧ yX0_become.cls ≠ "java/lang/invoke/VarHandle" ∧ (parseMethodDescriptor yX0_become.desc).map (fun d => d.parameters.length) = some 1 := by decide +kernel
theorem wc_X1_init : Cond.code yX1_init cX1_init 1 (none) ∈ mGW := mIn 100 (by decide +kernel) rfl
theorem wi_X1_init : Cond.instanceMethod yX1_init ∈ mGW := mIn 99 (by decide +kernel) rfl
theorem wd_X1_init : yX1_init.cls ≠ "java/lang/invoke/MethodHandle" ∧ yX1_init.cls ≠ "java/lang/invoke/VarHandle" ∧ (parseMethodDescriptor yX1_init.desc).map (fun d => d.parameters.length) = some 0 := by decide +kernel
theorem wc_X1_begin : Cond.code yX1_begin cX1_begin 2 (none) ∈ mGW := mIn 231 (by decide +kernel) rfl
theorem wi_X1_begin : Cond.instanceMethod yX1_begin ∈ mGW := mIn 229 (by decide +kernel) rfl
theorem wl_X1_begin : Cond.selects RX1 yX1_begin yX1_begin ∈ mGW := mIn 230 (by decide +kernel) rfl
theorem wd_X1_begin : yX1_begin.cls ≠ "java/lang/invoke/MethodHandle" ∧ yX1_begin.cls ≠ "java/lang/invoke/VarHandle" ∧ (parseMethodDescriptor yX1_begin.desc).map (fun d => d.parameters.length) = some 1 := by decide +kernel
theorem wc_X1_isAbove : Cond.code yX1_isAbove cX1_isAbove 3 (some .boolean) ∈ mGW := mIn 512 (by decide +kernel) rfl
theorem wi_X1_isAbove : Cond.instanceMethod yX1_isAbove ∈ mGW := mIn 510 (by decide +kernel) rfl
theorem wl_X1_isAbove : Cond.selects RX1 yX1_isAbove yX1_isAbove ∈ mGW := mIn 511 (by decide +kernel) rfl
theorem wd_X1_isAbove : yX1_isAbove.cls ≠ "java/lang/invoke/MethodHandle" ∧ yX1_isAbove.cls ≠ "java/lang/invoke/VarHandle" ∧ (parseMethodDescriptor yX1_isAbove.desc).map (fun d => d.parameters.length) = some 2 := by decide +kernel
theorem wc_X1_mayDouble : Cond.code yX1_mayDouble cX1_mayDouble 1 (some .boolean) ∈ mGW := mIn 485 (by decide +kernel) rfl
theorem wi_X1_mayDouble : Cond.instanceMethod yX1_mayDouble ∈ mGW := mIn 483 (by decide +kernel) rfl
theorem wl_X1_mayDouble : Cond.selects RX1 yX1_mayDouble yX1_mayDouble ∈ mGW := mIn 484 (by decide +kernel) rfl
theorem wd_X1_mayDouble : yX1_mayDouble.cls ≠ "java/lang/invoke/MethodHandle" ∧ yX1_mayDouble.cls ≠ "java/lang/invoke/VarHandle" ∧ (parseMethodDescriptor yX1_mayDouble.desc).map (fun d => d.parameters.length) = some 0 := by decide +kernel
theorem wc_X1_mayRedouble : Cond.code yX1_mayRedouble cX1_mayRedouble 1 (some .boolean) ∈ mGW := mIn 489 (by decide +kernel) rfl
theorem wi_X1_mayRedouble : Cond.instanceMethod yX1_mayRedouble ∈ mGW := mIn 487 (by decide +kernel) rfl
theorem wl_X1_mayRedouble : Cond.selects RX1 yX1_mayRedouble yX1_mayRedouble ∈ mGW := mIn 488 (by decide +kernel) rfl
theorem wd_X1_mayRedouble : yX1_mayRedouble.cls ≠ "java/lang/invoke/MethodHandle" ∧ yX1_mayRedouble.cls ≠ "java/lang/invoke/VarHandle" ∧ (parseMethodDescriptor yX1_mayRedouble.desc).map (fun d => d.parameters.length) = some 0 := by decide +kernel
theorem wc_X1_bid : Cond.code yX1_bid cX1_bid 4 (none) ∈ mGW := mIn 616 (by decide +kernel) rfl
theorem wi_X1_bid : Cond.instanceMethod yX1_bid ∈ mGW := mIn 614 (by decide +kernel) rfl
theorem wl_X1_bid : Cond.selects RX1 yX1_bid yX1_bid ∈ mGW := mIn 615 (by decide +kernel) rfl
theorem wd_X1_bid : yX1_bid.cls ≠ "java/lang/invoke/MethodHandle" ∧ yX1_bid.cls ≠ "java/lang/invoke/VarHandle" ∧ (parseMethodDescriptor yX1_bid.desc).map (fun d => d.parameters.length) = some 2 := by decide +kernel
theorem wc_X1_redoubleOrDouble : Cond.code yX1_redoubleOrDouble cX1_redoubleOrDouble 1 (none) ∈ mGW := mIn 643 (by decide +kernel) rfl
theorem wi_X1_redoubleOrDouble : Cond.instanceMethod yX1_redoubleOrDouble ∈ mGW := mIn 641 (by decide +kernel) rfl
theorem wl_X1_redoubleOrDouble : Cond.selects RX1 yX1_redoubleOrDouble yX1_redoubleOrDouble ∈ mGW := mIn 642 (by decide +kernel) rfl
theorem wd_X1_redoubleOrDouble : yX1_redoubleOrDouble.cls ≠ "java/lang/invoke/MethodHandle" ∧ yX1_redoubleOrDouble.cls ≠ "java/lang/invoke/VarHandle" ∧ (parseMethodDescriptor yX1_redoubleOrDouble.desc).map (fun d => d.parameters.length) = some 0 := by decide +kernel
theorem wc_X1_pass : Cond.code yX1_pass cX1_pass 1 (none) ∈ mGW := mIn 626 (by decide +kernel) rfl
theorem wi_X1_pass : Cond.instanceMethod yX1_pass ∈ mGW := mIn 624 (by decide +kernel) rfl
theorem wl_X1_pass : Cond.selects RX1 yX1_pass yX1_pass ∈ mGW := mIn 625 (by decide +kernel) rfl
theorem wd_X1_pass : yX1_pass.cls ≠ "java/lang/invoke/MethodHandle" ∧ yX1_pass.cls ≠ "java/lang/invoke/VarHandle" ∧ (parseMethodDescriptor yX1_pass.desc).map (fun d => d.parameters.length) = some 0 := by decide +kernel
theorem wc_X1_hasContract : Cond.code yX1_hasContract cX1_hasContract 1 (some .boolean) ∈ mGW := mIn 630 (by decide +kernel) rfl
theorem wi_X1_hasContract : Cond.instanceMethod yX1_hasContract ∈ mGW := mIn 628 (by decide +kernel) rfl
theorem wl_X1_hasContract : Cond.selects RX1 yX1_hasContract yX1_hasContract ∈ mGW := mIn 629 (by decide +kernel) rfl
theorem wd_X1_hasContract : yX1_hasContract.cls ≠ "java/lang/invoke/MethodHandle" ∧ yX1_hasContract.cls ≠ "java/lang/invoke/VarHandle" ∧ (parseMethodDescriptor yX1_hasContract.desc).map (fun d => d.parameters.length) = some 0 := by decide +kernel
theorem wc_X1_nameDeclarer : Cond.code yX1_nameDeclarer cX1_nameDeclarer 1 (none) ∈ mGW := mIn 634 (by decide +kernel) rfl
theorem wi_X1_nameDeclarer : Cond.instanceMethod yX1_nameDeclarer ∈ mGW := mIn 632 (by decide +kernel) rfl
theorem wl_X1_nameDeclarer : Cond.selects RX1 yX1_nameDeclarer yX1_nameDeclarer ∈ mGW := mIn 633 (by decide +kernel) rfl
theorem wd_X1_nameDeclarer : yX1_nameDeclarer.cls ≠ "java/lang/invoke/MethodHandle" ∧ yX1_nameDeclarer.cls ≠ "java/lang/invoke/VarHandle" ∧ (parseMethodDescriptor yX1_nameDeclarer.desc).map (fun d => d.parameters.length) = some 0 := by decide +kernel
theorem wc_X2_init : Cond.code yX2_init cX2_init 1 (none) ∈ mGW := mIn 145 (by decide +kernel) rfl
theorem wi_X2_init : Cond.instanceMethod yX2_init ∈ mGW := mIn 144 (by decide +kernel) rfl
theorem wd_X2_init : yX2_init.cls ≠ "java/lang/invoke/MethodHandle" ∧ yX2_init.cls ≠ "java/lang/invoke/VarHandle" ∧ (parseMethodDescriptor yX2_init.desc).map (fun d => d.parameters.length) = some 0 := by decide +kernel
theorem wc_X2_clear : Cond.code yX2_clear cX2_clear 1 (none) ∈ mGW := mIn 238 (by decide +kernel) rfl
theorem wi_X2_clear : Cond.instanceMethod yX2_clear ∈ mGW := mIn 236 (by decide +kernel) rfl
theorem wl_X2_clear : Cond.selects RX2 yX2_clear yX2_clear ∈ mGW := mIn 237 (by decide +kernel) rfl
theorem wd_X2_clear : yX2_clear.cls ≠ "java/lang/invoke/MethodHandle" ∧ yX2_clear.cls ≠ "java/lang/invoke/VarHandle" ∧ (parseMethodDescriptor yX2_clear.desc).map (fun d => d.parameters.length) = some 0 := by decide +kernel
theorem wc_X2_dealOut : Cond.code yX2_dealOut cX2_dealOut 6 (none) ∈ mGW := mIn 607 (by decide +kernel) rfl
theorem wi_X2_dealOut : Cond.instanceMethod yX2_dealOut ∈ mGW := mIn 605 (by decide +kernel) rfl
theorem wl_X2_dealOut : Cond.selects RX2 yX2_dealOut yX2_dealOut ∈ mGW := mIn 606 (by decide +kernel) rfl
theorem wd_X2_dealOut : yX2_dealOut.cls ≠ "java/lang/invoke/MethodHandle" ∧ yX2_dealOut.cls ≠ "java/lang/invoke/VarHandle" ∧ (parseMethodDescriptor yX2_dealOut.desc).map (fun d => d.parameters.length) = some 1 := by decide +kernel
theorem wc_X2_begin : Cond.code yX2_begin cX2_begin 5 (none) ∈ mGW := mIn 243 (by decide +kernel) rfl
theorem wi_X2_begin : Cond.instanceMethod yX2_begin ∈ mGW := mIn 241 (by decide +kernel) rfl
theorem wl_X2_begin : Cond.selects RX2 yX2_begin yX2_begin ∈ mGW := mIn 242 (by decide +kernel) rfl
theorem wd_X2_begin : yX2_begin.cls ≠ "java/lang/invoke/MethodHandle" ∧ yX2_begin.cls ≠ "java/lang/invoke/VarHandle" ∧ (parseMethodDescriptor yX2_begin.desc).map (fun d => d.parameters.length) = some 4 := by decide +kernel
theorem wc_X2_become : Cond.code yX2_become cX2_become 2 (none) ∈ mGW := mIn 542 (by decide +kernel) rfl
theorem wi_X2_become : Cond.instanceMethod yX2_become ∈ mGW := mIn 540 (by decide +kernel) rfl
theorem wl_X2_become : Cond.selects RX2 yX2_become yX2_become ∈ mGW := mIn 541 (by decide +kernel) rfl
theorem wd_X2_become : yX2_become.cls ≠ "java/lang/invoke/MethodHandle" ∧ yX2_become.cls ≠ "java/lang/invoke/VarHandle" ∧ (parseMethodDescriptor yX2_become.desc).map (fun d => d.parameters.length) = some 1 := by decide +kernel
theorem wc_X2_full : Cond.code yX2_full cX2_full 1 (some .int) ∈ mGW := mIn 501 (by decide +kernel) rfl
theorem wi_X2_full : Cond.instanceMethod yX2_full ∈ mGW := mIn 499 (by decide +kernel) rfl
theorem wl_X2_full : Cond.selects RX2 yX2_full yX2_full ∈ mGW := mIn 500 (by decide +kernel) rfl
theorem wd_X2_full : yX2_full.cls ≠ "java/lang/invoke/MethodHandle" ∧ yX2_full.cls ≠ "java/lang/invoke/VarHandle" ∧ (parseMethodDescriptor yX2_full.desc).map (fun d => d.parameters.length) = some 0 := by decide +kernel
theorem wc_X2_left : Cond.code yX2_left cX2_left 1 (some .int) ∈ mGW := mIn 497 (by decide +kernel) rfl
theorem wi_X2_left : Cond.instanceMethod yX2_left ∈ mGW := mIn 495 (by decide +kernel) rfl
theorem wl_X2_left : Cond.selects RX2 yX2_left yX2_left ∈ mGW := mIn 496 (by decide +kernel) rfl
theorem wd_X2_left : yX2_left.cls ≠ "java/lang/invoke/MethodHandle" ∧ yX2_left.cls ≠ "java/lang/invoke/VarHandle" ∧ (parseMethodDescriptor yX2_left.desc).map (fun d => d.parameters.length) = some 0 := by decide +kernel
theorem wc_X2_cardAt : Cond.code yX2_cardAt cX2_cardAt 2 (some .int) ∈ mGW := mIn 879 (by decide +kernel) rfl
theorem wi_X2_cardAt : Cond.instanceMethod yX2_cardAt ∈ mGW := mIn 877 (by decide +kernel) rfl
theorem wl_X2_cardAt : Cond.selects RX2 yX2_cardAt yX2_cardAt ∈ mGW := mIn 878 (by decide +kernel) rfl
theorem wd_X2_cardAt : yX2_cardAt.cls ≠ "java/lang/invoke/MethodHandle" ∧ yX2_cardAt.cls ≠ "java/lang/invoke/VarHandle" ∧ (parseMethodDescriptor yX2_cardAt.desc).map (fun d => d.parameters.length) = some 1 := by decide +kernel
theorem wc_X2_allowed : Cond.code yX2_allowed cX2_allowed 6 (some .int) ∈ mGW := mIn 516 (by decide +kernel) rfl
theorem wi_X2_allowed : Cond.instanceMethod yX2_allowed ∈ mGW := mIn 514 (by decide +kernel) rfl
theorem wl_X2_allowed : Cond.selects RX2 yX2_allowed yX2_allowed ∈ mGW := mIn 515 (by decide +kernel) rfl
theorem wd_X2_allowed : yX2_allowed.cls ≠ "java/lang/invoke/MethodHandle" ∧ yX2_allowed.cls ≠ "java/lang/invoke/VarHandle" ∧ (parseMethodDescriptor yX2_allowed.desc).map (fun d => d.parameters.length) = some 0 := by decide +kernel
theorem wc_X2_strongerTrumps : Cond.code yX2_strongerTrumps cX2_strongerTrumps 5 (some .int) ∈ mGW := mIn 524 (by decide +kernel) rfl
theorem wi_X2_strongerTrumps : Cond.instanceMethod yX2_strongerTrumps ∈ mGW := mIn 523 (by decide +kernel) rfl
theorem wl_X2_strongerTrumps : Cond.selects RX2 yX2_strongerTrumps yX2_strongerTrumps ∈ mGW := mInS 10 (by decide +kernel) rfl
theorem wd_X2_strongerTrumps : yX2_strongerTrumps.cls ≠ "java/lang/invoke/MethodHandle" ∧ yX2_strongerTrumps.cls ≠ "java/lang/invoke/VarHandle" ∧ (parseMethodDescriptor yX2_strongerTrumps.desc).map (fun d => d.parameters.length) = some 1 := by decide +kernel
theorem wc_X2_lay : Cond.code yX2_lay cX2_lay 4 (none) ∈ mGW := mIn 569 (by decide +kernel) rfl
theorem wi_X2_lay : Cond.instanceMethod yX2_lay ∈ mGW := mIn 567 (by decide +kernel) rfl
theorem wl_X2_lay : Cond.selects RX2 yX2_lay yX2_lay ∈ mGW := mIn 568 (by decide +kernel) rfl
theorem wd_X2_lay : yX2_lay.cls ≠ "java/lang/invoke/MethodHandle" ∧ yX2_lay.cls ≠ "java/lang/invoke/VarHandle" ∧ (parseMethodDescriptor yX2_lay.desc).map (fun d => d.parameters.length) = some 1 := by decide +kernel
theorem wc_X2_lift : Cond.code yX2_lift cX2_lift 1 (none) ∈ mGW := mIn 585 (by decide +kernel) rfl
theorem wi_X2_lift : Cond.instanceMethod yX2_lift ∈ mGW := mIn 583 (by decide +kernel) rfl
theorem wl_X2_lift : Cond.selects RX2 yX2_lift yX2_lift ∈ mGW := mIn 584 (by decide +kernel) rfl
theorem wd_X2_lift : yX2_lift.cls ≠ "java/lang/invoke/MethodHandle" ∧ yX2_lift.cls ≠ "java/lang/invoke/VarHandle" ∧ (parseMethodDescriptor yX2_lift.desc).map (fun d => d.parameters.length) = some 0 := by decide +kernel
theorem wc_X2_addWon : Cond.code yX2_addWon cX2_addWon 3 (none) ∈ mGW := mIn 581 (by decide +kernel) rfl
theorem wi_X2_addWon : Cond.instanceMethod yX2_addWon ∈ mGW := mIn 579 (by decide +kernel) rfl
theorem wl_X2_addWon : Cond.selects RX2 yX2_addWon yX2_addWon ∈ mGW := mIn 580 (by decide +kernel) rfl
theorem wd_X2_addWon : yX2_addWon.cls ≠ "java/lang/invoke/MethodHandle" ∧ yX2_addWon.cls ≠ "java/lang/invoke/VarHandle" ∧ (parseMethodDescriptor yX2_addWon.desc).map (fun d => d.parameters.length) = some 2 := by decide +kernel
theorem wc_X2_winnerOf : Cond.code yX2_winnerOf cX2_winnerOf 11 (some .int) ∈ mGW := mIn 577 (by decide +kernel) rfl
theorem wi_X2_winnerOf : Cond.instanceMethod yX2_winnerOf ∈ mGW := mIn 575 (by decide +kernel) rfl
theorem wl_X2_winnerOf : Cond.selects RX2 yX2_winnerOf yX2_winnerOf ∈ mGW := mIn 576 (by decide +kernel) rfl
theorem wd_X2_winnerOf : yX2_winnerOf.cls ≠ "java/lang/invoke/MethodHandle" ∧ yX2_winnerOf.cls ≠ "java/lang/invoke/VarHandle" ∧ (parseMethodDescriptor yX2_winnerOf.desc).map (fun d => d.parameters.length) = some 3 := by decide +kernel
theorem wc_X3_init : Cond.code yX3_init cX3_init 1 (none) ∈ mGW := mIn 198 (by decide +kernel) rfl
theorem wi_X3_init : Cond.instanceMethod yX3_init ∈ mGW := mIn 197 (by decide +kernel) rfl
theorem wd_X3_init : yX3_init.cls ≠ "java/lang/invoke/MethodHandle" ∧ yX3_init.cls ≠ "java/lang/invoke/VarHandle" ∧ (parseMethodDescriptor yX3_init.desc).map (fun d => d.parameters.length) = some 0 := by decide +kernel
theorem wc_X3_clear : Cond.code yX3_clear cX3_clear 1 (none) ∈ mGW := mIn 247 (by decide +kernel) rfl
theorem wi_X3_clear : Cond.instanceMethod yX3_clear ∈ mGW := mIn 245 (by decide +kernel) rfl
theorem wl_X3_clear : Cond.selects RX3 yX3_clear yX3_clear ∈ mGW := mIn 246 (by decide +kernel) rfl
theorem wd_X3_clear : yX3_clear.cls ≠ "java/lang/invoke/MethodHandle" ∧ yX3_clear.cls ≠ "java/lang/invoke/VarHandle" ∧ (parseMethodDescriptor yX3_clear.desc).map (fun d => d.parameters.length) = some 0 := by decide +kernel
theorem wc_X3_settle : Cond.code yX3_settle cX3_settle 5 (none) ∈ mGW := mIn 653 (by decide +kernel) rfl
theorem wi_X3_settle : Cond.instanceMethod yX3_settle ∈ mGW := mIn 651 (by decide +kernel) rfl
theorem wl_X3_settle : Cond.selects RX3 yX3_settle yX3_settle ∈ mGW := mIn 652 (by decide +kernel) rfl
theorem wd_X3_settle : yX3_settle.cls ≠ "java/lang/invoke/MethodHandle" ∧ yX3_settle.cls ≠ "java/lang/invoke/VarHandle" ∧ (parseMethodDescriptor yX3_settle.desc).map (fun d => d.parameters.length) = some 2 := by decide +kernel
theorem wc_X3_totalOf : Cond.code yX3_totalOf cX3_totalOf 3 (some .int) ∈ mGW := mIn 909 (by decide +kernel) rfl
theorem wi_X3_totalOf : Cond.instanceMethod yX3_totalOf ∈ mGW := mIn 907 (by decide +kernel) rfl
theorem wl_X3_totalOf : Cond.selects RX3 yX3_totalOf yX3_totalOf ∈ mGW := mIn 908 (by decide +kernel) rfl
theorem wd_X3_totalOf : yX3_totalOf.cls ≠ "java/lang/invoke/MethodHandle" ∧ yX3_totalOf.cls ≠ "java/lang/invoke/VarHandle" ∧ (parseMethodDescriptor yX3_totalOf.desc).map (fun d => d.parameters.length) = some 2 := by decide +kernel
theorem wc_X4_init : Cond.code yX4_init cX4_init 1 (none) ∈ mGW := mIn 314 (by decide +kernel) rfl
theorem wi_X4_init : Cond.instanceMethod yX4_init ∈ mGW := mIn 313 (by decide +kernel) rfl
theorem wd_X4_init : yX4_init.cls ≠ "java/lang/invoke/MethodHandle" ∧ yX4_init.cls ≠ "java/lang/invoke/VarHandle" ∧ (parseMethodDescriptor yX4_init.desc).map (fun d => d.parameters.length) = some 0 := by decide +kernel
theorem wc_X4_isMissing : Cond.code yX4_isMissing cX4_isMissing 1 (some .boolean) ∈ mGW := mIn 961 (by decide +kernel) rfl
theorem wi_X4_isMissing : Cond.instanceMethod yX4_isMissing ∈ mGW := mIn 959 (by decide +kernel) rfl
theorem wl_X4_isMissing : Cond.selects RX4 yX4_isMissing yX4_isMissing ∈ mGW := mIn 960 (by decide +kernel) rfl
theorem wd_X4_isMissing : yX4_isMissing.cls ≠ "java/lang/invoke/MethodHandle" ∧ yX4_isMissing.cls ≠ "java/lang/invoke/VarHandle" ∧ (parseMethodDescriptor yX4_isMissing.desc).map (fun d => d.parameters.length) = some 0 := by decide +kernel
theorem wc_X4_become : Cond.code yX4_become cX4_become 3 (none) ∈ mGW := mIn 986 (by decide +kernel) rfl
theorem wi_X4_become : Cond.instanceMethod yX4_become ∈ mGW := mIn 984 (by decide +kernel) rfl
theorem wl_X4_become : Cond.selects RX4 yX4_become yX4_become ∈ mGW := mIn 985 (by decide +kernel) rfl
theorem wd_X4_become : yX4_become.cls ≠ "java/lang/invoke/MethodHandle" ∧ yX4_become.cls ≠ "java/lang/invoke/VarHandle" ∧ (parseMethodDescriptor yX4_become.desc).map (fun d => d.parameters.length) = some 2 := by decide +kernel
theorem wc_X4_holds : Cond.code yX4_holds cX4_holds 3 (some .boolean) ∈ mGW := mIn 1017 (by decide +kernel) rfl
theorem wi_X4_holds : Cond.instanceMethod yX4_holds ∈ mGW := mIn 1015 (by decide +kernel) rfl
theorem wl_X4_holds : Cond.selects RX4 yX4_holds yX4_holds ∈ mGW := mIn 1016 (by decide +kernel) rfl
theorem wd_X4_holds : yX4_holds.cls ≠ "java/lang/invoke/MethodHandle" ∧ yX4_holds.cls ≠ "java/lang/invoke/VarHandle" ∧ (parseMethodDescriptor yX4_holds.desc).map (fun d => d.parameters.length) = some 2 := by decide +kernel
theorem wc_X5_init : Cond.code yX5_init cX5_init 1 (none) ∈ mGW := mIn 94 (by decide +kernel) rfl
theorem wi_X5_init : Cond.instanceMethod yX5_init ∈ mGW := mIn 93 (by decide +kernel) rfl
theorem wd_X5_init : yX5_init.cls ≠ "java/lang/invoke/MethodHandle" ∧ yX5_init.cls ≠ "java/lang/invoke/VarHandle" ∧ (parseMethodDescriptor yX5_init.desc).map (fun d => d.parameters.length) = some 0 := by decide +kernel
theorem wc_X5_clear : Cond.code yX5_clear cX5_clear 1 (none) ∈ mGW := mIn 227 (by decide +kernel) rfl
theorem wi_X5_clear : Cond.instanceMethod yX5_clear ∈ mGW := mIn 225 (by decide +kernel) rfl
theorem wl_X5_clear : Cond.selects RX5 yX5_clear yX5_clear ∈ mGW := mIn 226 (by decide +kernel) rfl
theorem wd_X5_clear : yX5_clear.cls ≠ "java/lang/invoke/MethodHandle" ∧ yX5_clear.cls ≠ "java/lang/invoke/VarHandle" ∧ (parseMethodDescriptor yX5_clear.desc).map (fun d => d.parameters.length) = some 0 := by decide +kernel
theorem wc_X5_inTurn : Cond.code yX5_inTurn cX5_inTurn 1 (some .int) ∈ mGW := mIn 590 (by decide +kernel) rfl
theorem wi_X5_inTurn : Cond.instanceMethod yX5_inTurn ∈ mGW := mIn 588 (by decide +kernel) rfl
theorem wl_X5_inTurn : Cond.selects RX5 yX5_inTurn yX5_inTurn ∈ mGW := mIn 589 (by decide +kernel) rfl
theorem wd_X5_inTurn : yX5_inTurn.cls ≠ "java/lang/invoke/MethodHandle" ∧ yX5_inTurn.cls ≠ "java/lang/invoke/VarHandle" ∧ (parseMethodDescriptor yX5_inTurn.desc).map (fun d => d.parameters.length) = some 0 := by decide +kernel
theorem wc_X5_isNearEnd : Cond.code yX5_isNearEnd cX5_isNearEnd 1 (some .boolean) ∈ mGW := mIn 493 (by decide +kernel) rfl
theorem wi_X5_isNearEnd : Cond.instanceMethod yX5_isNearEnd ∈ mGW := mIn 491 (by decide +kernel) rfl
theorem wl_X5_isNearEnd : Cond.selects RX5 yX5_isNearEnd yX5_isNearEnd ∈ mGW := mIn 492 (by decide +kernel) rfl
theorem wd_X5_isNearEnd : yX5_isNearEnd.cls ≠ "java/lang/invoke/MethodHandle" ∧ yX5_isNearEnd.cls ≠ "java/lang/invoke/VarHandle" ∧ (parseMethodDescriptor yX5_isNearEnd.desc).map (fun d => d.parameters.length) = some 0 := by decide +kernel
theorem wc_X5_isTimeFor : Cond.code yX5_isTimeFor cX5_isTimeFor 2 (some .boolean) ∈ mGW := mIn 481 (by decide +kernel) rfl
theorem wi_X5_isTimeFor : Cond.instanceMethod yX5_isTimeFor ∈ mGW := mIn 479 (by decide +kernel) rfl
theorem wl_X5_isTimeFor : Cond.selects RX5 yX5_isTimeFor yX5_isTimeFor ∈ mGW := mIn 480 (by decide +kernel) rfl
theorem wd_X5_isTimeFor : yX5_isTimeFor.cls ≠ "java/lang/invoke/MethodHandle" ∧ yX5_isTimeFor.cls ≠ "java/lang/invoke/VarHandle" ∧ (parseMethodDescriptor yX5_isTimeFor.desc).map (fun d => d.parameters.length) = some 1 := by decide +kernel
theorem wc_X5_perform : Cond.code yX5_perform cX5_perform 4 (none) ∈ mGW := mIn 599 (by decide +kernel) rfl
theorem wi_X5_perform : Cond.instanceMethod yX5_perform ∈ mGW := mIn 597 (by decide +kernel) rfl
theorem wl_X5_perform : Cond.selects RX5 yX5_perform yX5_perform ∈ mGW := mIn 598 (by decide +kernel) rfl
theorem wd_X5_perform : yX5_perform.cls ≠ "java/lang/invoke/MethodHandle" ∧ yX5_perform.cls ≠ "java/lang/invoke/VarHandle" ∧ (parseMethodDescriptor yX5_perform.desc).map (fun d => d.parameters.length) = some 3 := by decide +kernel
theorem wc_X5_beginDeal : Cond.code yX5_beginDeal cX5_beginDeal 2 (none) ∈ mGW := mIn 603 (by decide +kernel) rfl
theorem wi_X5_beginDeal : Cond.instanceMethod yX5_beginDeal ∈ mGW := mIn 602 (by decide +kernel) rfl
theorem wl_X5_beginDeal : Cond.selects RX5 yX5_beginDeal yX5_beginDeal ∈ mGW := mInS 12 (by decide +kernel) rfl
theorem wd_X5_beginDeal : yX5_beginDeal.cls ≠ "java/lang/invoke/MethodHandle" ∧ yX5_beginDeal.cls ≠ "java/lang/invoke/VarHandle" ∧ (parseMethodDescriptor yX5_beginDeal.desc).map (fun d => d.parameters.length) = some 1 := by decide +kernel
theorem wc_X5_pass : Cond.code yX5_pass cX5_pass 1 (none) ∈ mGW := mIn 622 (by decide +kernel) rfl
theorem wi_X5_pass : Cond.instanceMethod yX5_pass ∈ mGW := mIn 621 (by decide +kernel) rfl
theorem wl_X5_pass : Cond.selects RX5 yX5_pass yX5_pass ∈ mGW := mInS 13 (by decide +kernel) rfl
theorem wd_X5_pass : yX5_pass.cls ≠ "java/lang/invoke/MethodHandle" ∧ yX5_pass.cls ≠ "java/lang/invoke/VarHandle" ∧ (parseMethodDescriptor yX5_pass.desc).map (fun d => d.parameters.length) = some 0 := by decide +kernel
theorem wc_X5_playCard : Cond.code yX5_playCard cX5_playCard 2 (none) ∈ mGW := mIn 647 (by decide +kernel) rfl
theorem wi_X5_playCard : Cond.instanceMethod yX5_playCard ∈ mGW := mIn 646 (by decide +kernel) rfl
theorem wl_X5_playCard : Cond.selects RX5 yX5_playCard yX5_playCard ∈ mGW := mInS 15 (by decide +kernel) rfl
theorem wd_X5_playCard : yX5_playCard.cls ≠ "java/lang/invoke/MethodHandle" ∧ yX5_playCard.cls ≠ "java/lang/invoke/VarHandle" ∧ (parseMethodDescriptor yX5_playCard.desc).map (fun d => d.parameters.length) = some 1 := by decide +kernel
theorem wc_X5_claim : Cond.code yX5_claim cX5_claim 3 (none) ∈ mGW := mIn 662 (by decide +kernel) rfl
theorem wi_X5_claim : Cond.instanceMethod yX5_claim ∈ mGW := mIn 661 (by decide +kernel) rfl
theorem wl_X5_claim : Cond.selects RX5 yX5_claim yX5_claim ∈ mGW := mInS 16 (by decide +kernel) rfl
theorem wd_X5_claim : yX5_claim.cls ≠ "java/lang/invoke/MethodHandle" ∧ yX5_claim.cls ≠ "java/lang/invoke/VarHandle" ∧ (parseMethodDescriptor yX5_claim.desc).map (fun d => d.parameters.length) = some 1 := by decide +kernel
theorem wc_X5_endDeal : Cond.code yX5_endDeal cX5_endDeal 1 (none) ∈ mGW := mIn 639 (by decide +kernel) rfl
theorem wi_X5_endDeal : Cond.instanceMethod yX5_endDeal ∈ mGW := mIn 638 (by decide +kernel) rfl
theorem wl_X5_endDeal : Cond.selects RX5 yX5_endDeal yX5_endDeal ∈ mGW := mInS 14 (by decide +kernel) rfl
theorem wd_X5_endDeal : yX5_endDeal.cls ≠ "java/lang/invoke/MethodHandle" ∧ yX5_endDeal.cls ≠ "java/lang/invoke/VarHandle" ∧ (parseMethodDescriptor yX5_endDeal.desc).map (fun d => d.parameters.length) = some 0 := by decide +kernel
theorem wc_X5_standing : Cond.code yX5_standing cX5_standing 2 (some .int) ∈ mGW := mIn 864 (by decide +kernel) rfl
theorem wi_X5_standing : Cond.instanceMethod yX5_standing ∈ mGW := mIn 862 (by decide +kernel) rfl
theorem wl_X5_standing : Cond.selects RX5 yX5_standing yX5_standing ∈ mGW := mIn 863 (by decide +kernel) rfl
theorem wd_X5_standing : yX5_standing.cls ≠ "java/lang/invoke/MethodHandle" ∧ yX5_standing.cls ≠ "java/lang/invoke/VarHandle" ∧ (parseMethodDescriptor yX5_standing.desc).map (fun d => d.parameters.length) = some 1 := by decide +kernel
theorem wc_X6_init : Cond.code yX6_init cX6_init 1 (none) ∈ mGW := mIn 33 (by decide +kernel) rfl
theorem wi_X6_init : Cond.instanceMethod yX6_init ∈ mGW := mIn 32 (by decide +kernel) rfl
theorem wd_X6_init : yX6_init.cls ≠ "java/lang/invoke/MethodHandle" ∧ yX6_init.cls ≠ "java/lang/invoke/VarHandle" ∧ (parseMethodDescriptor yX6_init.desc).map (fun d => d.parameters.length) = some 0 := by decide +kernel
theorem wc_X6_add : Cond.code yX6_add cX6_add 2 (none) ∈ mGW := mIn 364 (by decide +kernel) rfl
theorem wi_X6_add : Cond.instanceMethod yX6_add ∈ mGW := mIn 362 (by decide +kernel) rfl
theorem wl_X6_add : Cond.selects RX6 yX6_add yX6_add ∈ mGW := mIn 363 (by decide +kernel) rfl
theorem wd_X6_add : yX6_add.cls ≠ "java/lang/invoke/MethodHandle" ∧ yX6_add.cls ≠ "java/lang/invoke/VarHandle" ∧ (parseMethodDescriptor yX6_add.desc).map (fun d => d.parameters.length) = some 1 := by decide +kernel
theorem wc_X6_read : Cond.code yX6_read cX6_read 1 (none) ∈ mGW := mIn 375 (by decide +kernel) rfl
theorem wi_X6_read : Cond.instanceMethod yX6_read ∈ mGW := mIn 373 (by decide +kernel) rfl
theorem wl_X6_read : Cond.selects RX6 yX6_read yX6_read ∈ mGW := mIn 374 (by decide +kernel) rfl
theorem wd_X6_read : yX6_read.cls ≠ "java/lang/invoke/MethodHandle" ∧ yX6_read.cls ≠ "java/lang/invoke/VarHandle" ∧ (parseMethodDescriptor yX6_read.desc).map (fun d => d.parameters.length) = some 0 := by decide +kernel
theorem wc_X6_readWord : Cond.code yX6_readWord cX6_readWord 3 (none) ∈ mGW := mIn 379 (by decide +kernel) rfl
theorem wi_X6_readWord : Cond.instanceMethod yX6_readWord ∈ mGW := mIn 378 (by decide +kernel) rfl
theorem wl_X6_readWord : Cond.selects RX6 yX6_readWord yX6_readWord ∈ mGW := mInS 0 (by decide +kernel) rfl
theorem wd_X6_readWord : yX6_readWord.cls ≠ "java/lang/invoke/MethodHandle" ∧ yX6_readWord.cls ≠ "java/lang/invoke/VarHandle" ∧ (parseMethodDescriptor yX6_readWord.desc).map (fun d => d.parameters.length) = some 0 := by decide +kernel
theorem wc_X6_readNumber : Cond.code yX6_readNumber cX6_readNumber 2 (none) ∈ mGW := mIn 462 (by decide +kernel) rfl
theorem wi_X6_readNumber : Cond.instanceMethod yX6_readNumber ∈ mGW := mIn 461 (by decide +kernel) rfl
theorem wl_X6_readNumber : Cond.selects RX6 yX6_readNumber yX6_readNumber ∈ mGW := mInS 5 (by decide +kernel) rfl
theorem wd_X6_readNumber : yX6_readNumber.cls ≠ "java/lang/invoke/MethodHandle" ∧ yX6_readNumber.cls ≠ "java/lang/invoke/VarHandle" ∧ (parseMethodDescriptor yX6_readNumber.desc).map (fun d => d.parameters.length) = some 0 := by decide +kernel
theorem wc_X6_readSuit : Cond.code yX6_readSuit cX6_readSuit 4 (none) ∈ mGW := mIn 466 (by decide +kernel) rfl
theorem wi_X6_readSuit : Cond.instanceMethod yX6_readSuit ∈ mGW := mIn 465 (by decide +kernel) rfl
theorem wl_X6_readSuit : Cond.selects RX6 yX6_readSuit yX6_readSuit ∈ mGW := mInS 6 (by decide +kernel) rfl
theorem wd_X6_readSuit : yX6_readSuit.cls ≠ "java/lang/invoke/MethodHandle" ∧ yX6_readSuit.cls ≠ "java/lang/invoke/VarHandle" ∧ (parseMethodDescriptor yX6_readSuit.desc).map (fun d => d.parameters.length) = some 1 := by decide +kernel
theorem wc_X6_readEnd : Cond.code yX6_readEnd cX6_readEnd 1 (none) ∈ mGW := mIn 473 (by decide +kernel) rfl
theorem wi_X6_readEnd : Cond.instanceMethod yX6_readEnd ∈ mGW := mIn 472 (by decide +kernel) rfl
theorem wl_X6_readEnd : Cond.selects RX6 yX6_readEnd yX6_readEnd ∈ mGW := mInS 7 (by decide +kernel) rfl
theorem wd_X6_readEnd : yX6_readEnd.cls ≠ "java/lang/invoke/MethodHandle" ∧ yX6_readEnd.cls ≠ "java/lang/invoke/VarHandle" ∧ (parseMethodDescriptor yX6_readEnd.desc).map (fun d => d.parameters.length) = some 0 := by decide +kernel
theorem wc_X6_skipBlanks : Cond.code yX6_skipBlanks cX6_skipBlanks 1 (none) ∈ mGW := mIn 383 (by decide +kernel) rfl
theorem wi_X6_skipBlanks : Cond.instanceMethod yX6_skipBlanks ∈ mGW := mIn 382 (by decide +kernel) rfl
theorem wl_X6_skipBlanks : Cond.selects RX6 yX6_skipBlanks yX6_skipBlanks ∈ mGW := mInS 1 (by decide +kernel) rfl
theorem wd_X6_skipBlanks : yX6_skipBlanks.cls ≠ "java/lang/invoke/MethodHandle" ∧ yX6_skipBlanks.cls ≠ "java/lang/invoke/VarHandle" ∧ (parseMethodDescriptor yX6_skipBlanks.desc).map (fun d => d.parameters.length) = some 0 := by decide +kernel
theorem wc_X6_skipLetters : Cond.code yX6_skipLetters cX6_skipLetters 1 (none) ∈ mGW := mIn 390 (by decide +kernel) rfl
theorem wi_X6_skipLetters : Cond.instanceMethod yX6_skipLetters ∈ mGW := mIn 389 (by decide +kernel) rfl
theorem wl_X6_skipLetters : Cond.selects RX6 yX6_skipLetters yX6_skipLetters ∈ mGW := mInS 2 (by decide +kernel) rfl
theorem wd_X6_skipLetters : yX6_skipLetters.cls ≠ "java/lang/invoke/MethodHandle" ∧ yX6_skipLetters.cls ≠ "java/lang/invoke/VarHandle" ∧ (parseMethodDescriptor yX6_skipLetters.desc).map (fun d => d.parameters.length) = some 0 := by decide +kernel
theorem wc_X6_isBetween : Cond.code yX6_isBetween cX6_isBetween 4 (some .boolean) ∈ mGW := mIn 394 (by decide +kernel) rfl
theorem wi_X6_isBetween : Cond.instanceMethod yX6_isBetween ∈ mGW := mIn 393 (by decide +kernel) rfl
theorem wl_X6_isBetween : Cond.selects RX6 yX6_isBetween yX6_isBetween ∈ mGW := mInS 3 (by decide +kernel) rfl
theorem wd_X6_isBetween : yX6_isBetween.cls ≠ "java/lang/invoke/MethodHandle" ∧ yX6_isBetween.cls ≠ "java/lang/invoke/VarHandle" ∧ (parseMethodDescriptor yX6_isBetween.desc).map (fun d => d.parameters.length) = some 2 := by decide +kernel
theorem wc_X6_isText : Cond.code yX6_isText cX6_isText 4 (some .boolean) ∈ mGW := mIn 411 (by decide +kernel) rfl
theorem wi_X6_isText : Cond.instanceMethod yX6_isText ∈ mGW := mIn 410 (by decide +kernel) rfl
theorem wl_X6_isText : Cond.selects RX6 yX6_isText yX6_isText ∈ mGW := mInS 4 (by decide +kernel) rfl
theorem wd_X6_isText : yX6_isText.cls ≠ "java/lang/invoke/MethodHandle" ∧ yX6_isText.cls ≠ "java/lang/invoke/VarHandle" ∧ (parseMethodDescriptor yX6_isText.desc).map (fun d => d.parameters.length) = some 2 := by decide +kernel
theorem wc_X7_init : Cond.code yX7_init cX7_init 2 (none) ∈ mGW := mIn 25 (by decide +kernel) rfl
theorem wi_X7_init : Cond.instanceMethod yX7_init ∈ mGW := mIn 24 (by decide +kernel) rfl
theorem wd_X7_init : yX7_init.cls ≠ "java/lang/invoke/MethodHandle" ∧ yX7_init.cls ≠ "java/lang/invoke/VarHandle" ∧ (parseMethodDescriptor yX7_init.desc).map (fun d => d.parameters.length) = some 0 := by decide +kernel
theorem wc_X7_feed : Cond.code yX7_feed cX7_feed 8 (some .int) ∈ mGW := mIn 357 (by decide +kernel) rfl
theorem wi_X7_feed : Cond.instanceMethod yX7_feed ∈ mGW := mIn 355 (by decide +kernel) rfl
theorem wl_X7_feed : Cond.selects RX7 yX7_feed yX7_feed ∈ mGW := mIn 356 (by decide +kernel) rfl
theorem wd_X7_feed : yX7_feed.cls ≠ "java/lang/invoke/MethodHandle" ∧ yX7_feed.cls ≠ "java/lang/invoke/VarHandle" ∧ (parseMethodDescriptor yX7_feed.desc).map (fun d => d.parameters.length) = some 6 := by decide +kernel
theorem wc_X7_act : Cond.code yX7_act cX7_act 2 (some .int) ∈ mGW := mIn 371 (by decide +kernel) rfl
theorem wi_X7_act : Cond.instanceMethod yX7_act ∈ mGW := mIn 369 (by decide +kernel) rfl
theorem wl_X7_act : Cond.selects RX7 yX7_act yX7_act ∈ mGW := mIn 370 (by decide +kernel) rfl
theorem wd_X7_act : yX7_act.cls ≠ "java/lang/invoke/MethodHandle" ∧ yX7_act.cls ≠ "java/lang/invoke/VarHandle" ∧ (parseMethodDescriptor yX7_act.desc).map (fun d => d.parameters.length) = some 0 := by decide +kernel
theorem wc_X7_undo : Cond.code yX7_undo cX7_undo 1 (some .int) ∈ mGW := mIn 667 (by decide +kernel) rfl
theorem wi_X7_undo : Cond.instanceMethod yX7_undo ∈ mGW := mIn 665 (by decide +kernel) rfl
theorem wl_X7_undo : Cond.selects RX7 yX7_undo yX7_undo ∈ mGW := mIn 666 (by decide +kernel) rfl
theorem wd_X7_undo : yX7_undo.cls ≠ "java/lang/invoke/MethodHandle" ∧ yX7_undo.cls ≠ "java/lang/invoke/VarHandle" ∧ (parseMethodDescriptor yX7_undo.desc).map (fun d => d.parameters.length) = some 0 := by decide +kernel
theorem wc_X7_log : Cond.code yX7_log cX7_log 3 (some .int) ∈ mGW := mIn 676 (by decide +kernel) rfl
theorem wi_X7_log : Cond.instanceMethod yX7_log ∈ mGW := mIn 674 (by decide +kernel) rfl
theorem wl_X7_log : Cond.selects RX7 yX7_log yX7_log ∈ mGW := mIn 675 (by decide +kernel) rfl
theorem wd_X7_log : yX7_log.cls ≠ "java/lang/invoke/MethodHandle" ∧ yX7_log.cls ≠ "java/lang/invoke/VarHandle" ∧ (parseMethodDescriptor yX7_log.desc).map (fun d => d.parameters.length) = some 2 := by decide +kernel
theorem wc_X7_print : Cond.code yX7_print cX7_print 3 (some .int) ∈ mGW := mIn 680 (by decide +kernel) rfl
theorem wi_X7_print : Cond.instanceMethod yX7_print ∈ mGW := mIn 678 (by decide +kernel) rfl
theorem wl_X7_print : Cond.selects RX7 yX7_print yX7_print ∈ mGW := mIn 679 (by decide +kernel) rfl
theorem wd_X7_print : yX7_print.cls ≠ "java/lang/invoke/MethodHandle" ∧ yX7_print.cls ≠ "java/lang/invoke/VarHandle" ∧ (parseMethodDescriptor yX7_print.desc).map (fun d => d.parameters.length) = some 2 := by decide +kernel
theorem wc_X7_told : Cond.code yX7_told cX7_told 2 (some .int) ∈ mGW := mIn 860 (by decide +kernel) rfl
theorem wi_X7_told : Cond.instanceMethod yX7_told ∈ mGW := mIn 858 (by decide +kernel) rfl
theorem wl_X7_told : Cond.selects RX7 yX7_told yX7_told ∈ mGW := mIn 859 (by decide +kernel) rfl
theorem wd_X7_told : yX7_told.cls ≠ "java/lang/invoke/MethodHandle" ∧ yX7_told.cls ≠ "java/lang/invoke/VarHandle" ∧ (parseMethodDescriptor yX7_told.desc).map (fun d => d.parameters.length) = some 1 := by decide +kernel
theorem wc_X7_hand : Cond.code yX7_hand cX7_hand 3 (some .int) ∈ mGW := mIn 870 (by decide +kernel) rfl
theorem wi_X7_hand : Cond.instanceMethod yX7_hand ∈ mGW := mIn 868 (by decide +kernel) rfl
theorem wl_X7_hand : Cond.selects RX7 yX7_hand yX7_hand ∈ mGW := mIn 869 (by decide +kernel) rfl
theorem wd_X7_hand : yX7_hand.cls ≠ "java/lang/invoke/MethodHandle" ∧ yX7_hand.cls ≠ "java/lang/invoke/VarHandle" ∧ (parseMethodDescriptor yX7_hand.desc).map (fun d => d.parameters.length) = some 2 := by decide +kernel
theorem wc_X7_trick : Cond.code yX7_trick cX7_trick 5 (some .int) ∈ mGW := mIn 874 (by decide +kernel) rfl
theorem wi_X7_trick : Cond.instanceMethod yX7_trick ∈ mGW := mIn 872 (by decide +kernel) rfl
theorem wl_X7_trick : Cond.selects RX7 yX7_trick yX7_trick ∈ mGW := mIn 873 (by decide +kernel) rfl
theorem wd_X7_trick : yX7_trick.cls ≠ "java/lang/invoke/MethodHandle" ∧ yX7_trick.cls ≠ "java/lang/invoke/VarHandle" ∧ (parseMethodDescriptor yX7_trick.desc).map (fun d => d.parameters.length) = some 2 := by decide +kernel
theorem wc_X7_strength : Cond.code yX7_strength cX7_strength 3 (some .int) ∈ mGW := mIn 883 (by decide +kernel) rfl
theorem wi_X7_strength : Cond.instanceMethod yX7_strength ∈ mGW := mIn 881 (by decide +kernel) rfl
theorem wl_X7_strength : Cond.selects RX7 yX7_strength yX7_strength ∈ mGW := mIn 882 (by decide +kernel) rfl
theorem wd_X7_strength : yX7_strength.cls ≠ "java/lang/invoke/MethodHandle" ∧ yX7_strength.cls ≠ "java/lang/invoke/VarHandle" ∧ (parseMethodDescriptor yX7_strength.desc).map (fun d => d.parameters.length) = some 2 := by decide +kernel
theorem wc_X7_taken : Cond.code yX7_taken cX7_taken 6 (some .int) ∈ mGW := mIn 889 (by decide +kernel) rfl
theorem wi_X7_taken : Cond.instanceMethod yX7_taken ∈ mGW := mIn 887 (by decide +kernel) rfl
theorem wl_X7_taken : Cond.selects RX7 yX7_taken yX7_taken ∈ mGW := mIn 888 (by decide +kernel) rfl
theorem wd_X7_taken : yX7_taken.cls ≠ "java/lang/invoke/MethodHandle" ∧ yX7_taken.cls ≠ "java/lang/invoke/VarHandle" ∧ (parseMethodDescriptor yX7_taken.desc).map (fun d => d.parameters.length) = some 2 := by decide +kernel
theorem wc_X7_score : Cond.code yX7_score cX7_score 3 (some .int) ∈ mGW := mIn 893 (by decide +kernel) rfl
theorem wi_X7_score : Cond.instanceMethod yX7_score ∈ mGW := mIn 891 (by decide +kernel) rfl
theorem wl_X7_score : Cond.selects RX7 yX7_score yX7_score ∈ mGW := mIn 892 (by decide +kernel) rfl
theorem wd_X7_score : yX7_score.cls ≠ "java/lang/invoke/MethodHandle" ∧ yX7_score.cls ≠ "java/lang/invoke/VarHandle" ∧ (parseMethodDescriptor yX7_score.desc).map (fun d => d.parameters.length) = some 1 := by decide +kernel
theorem wc_X7_table : Cond.code yX7_table cX7_table 6 (some .int) ∈ mGW := mIn 901 (by decide +kernel) rfl
theorem wi_X7_table : Cond.instanceMethod yX7_table ∈ mGW := mIn 899 (by decide +kernel) rfl
theorem wl_X7_table : Cond.selects RX7 yX7_table yX7_table ∈ mGW := mIn 900 (by decide +kernel) rfl
theorem wd_X7_table : yX7_table.cls ≠ "java/lang/invoke/MethodHandle" ∧ yX7_table.cls ≠ "java/lang/invoke/VarHandle" ∧ (parseMethodDescriptor yX7_table.desc).map (fun d => d.parameters.length) = some 5 := by decide +kernel
theorem wc_X7_total : Cond.code yX7_total cX7_total 3 (some .int) ∈ mGW := mIn 905 (by decide +kernel) rfl
theorem wi_X7_total : Cond.instanceMethod yX7_total ∈ mGW := mIn 903 (by decide +kernel) rfl
theorem wl_X7_total : Cond.selects RX7 yX7_total yX7_total ∈ mGW := mIn 904 (by decide +kernel) rfl
theorem wd_X7_total : yX7_total.cls ≠ "java/lang/invoke/MethodHandle" ∧ yX7_total.cls ≠ "java/lang/invoke/VarHandle" ∧ (parseMethodDescriptor yX7_total.desc).map (fun d => d.parameters.length) = some 2 := by decide +kernel
theorem wc_X7_open : Cond.code yX7_open cX7_open 1 (some .int) ∈ mGW := mIn 913 (by decide +kernel) rfl
theorem wi_X7_open : Cond.instanceMethod yX7_open ∈ mGW := mIn 911 (by decide +kernel) rfl
theorem wl_X7_open : Cond.selects RX7 yX7_open yX7_open ∈ mGW := mIn 912 (by decide +kernel) rfl
theorem wd_X7_open : yX7_open.cls ≠ "java/lang/invoke/MethodHandle" ∧ yX7_open.cls ≠ "java/lang/invoke/VarHandle" ∧ (parseMethodDescriptor yX7_open.desc).map (fun d => d.parameters.length) = some 0 := by decide +kernel
theorem wc_X7_gains : Cond.code yX7_gains cX7_gains 2 (some .int) ∈ mGW := mIn 918 (by decide +kernel) rfl
theorem wi_X7_gains : Cond.instanceMethod yX7_gains ∈ mGW := mIn 916 (by decide +kernel) rfl
theorem wl_X7_gains : Cond.selects RX7 yX7_gains yX7_gains ∈ mGW := mIn 917 (by decide +kernel) rfl
theorem wd_X7_gains : yX7_gains.cls ≠ "java/lang/invoke/MethodHandle" ∧ yX7_gains.cls ≠ "java/lang/invoke/VarHandle" ∧ (parseMethodDescriptor yX7_gains.desc).map (fun d => d.parameters.length) = some 1 := by decide +kernel
theorem wc_X7_best : Cond.code yX7_best cX7_best 10 (some .int) ∈ mGW := mIn 926 (by decide +kernel) rfl
theorem wi_X7_best : Cond.instanceMethod yX7_best ∈ mGW := mIn 924 (by decide +kernel) rfl
theorem wl_X7_best : Cond.selects RX7 yX7_best yX7_best ∈ mGW := mIn 925 (by decide +kernel) rfl
theorem wd_X7_best : yX7_best.cls ≠ "java/lang/invoke/MethodHandle" ∧ yX7_best.cls ≠ "java/lang/invoke/VarHandle" ∧ (parseMethodDescriptor yX7_best.desc).map (fun d => d.parameters.length) = some 1 := by decide +kernel
theorem wc_X7_drawn : Cond.code yX7_drawn cX7_drawn 2 (some .int) ∈ mGW := mIn 930 (by decide +kernel) rfl
theorem wi_X7_drawn : Cond.instanceMethod yX7_drawn ∈ mGW := mIn 928 (by decide +kernel) rfl
theorem wl_X7_drawn : Cond.selects RX7 yX7_drawn yX7_drawn ∈ mGW := mIn 929 (by decide +kernel) rfl
theorem wd_X7_drawn : yX7_drawn.cls ≠ "java/lang/invoke/MethodHandle" ∧ yX7_drawn.cls ≠ "java/lang/invoke/VarHandle" ∧ (parseMethodDescriptor yX7_drawn.desc).map (fun d => d.parameters.length) = some 1 := by decide +kernel
theorem wc_X7_chance : Cond.code yX7_chance cX7_chance 6 (some .int) ∈ mGW := mIn 942 (by decide +kernel) rfl
theorem wi_X7_chance : Cond.instanceMethod yX7_chance ∈ mGW := mIn 940 (by decide +kernel) rfl
theorem wl_X7_chance : Cond.selects RX7 yX7_chance yX7_chance ∈ mGW := mIn 941 (by decide +kernel) rfl
theorem wd_X7_chance : yX7_chance.cls ≠ "java/lang/invoke/MethodHandle" ∧ yX7_chance.cls ≠ "java/lang/invoke/VarHandle" ∧ (parseMethodDescriptor yX7_chance.desc).map (fun d => d.parameters.length) = some 3 := by decide +kernel
theorem wc_X7_replay : Cond.code yX7_replay cX7_replay 4 (some .int) ∈ mGW := mIn 949 (by decide +kernel) rfl
theorem wi_X7_replay : Cond.instanceMethod yX7_replay ∈ mGW := mIn 947 (by decide +kernel) rfl
theorem wl_X7_replay : Cond.selects RX7 yX7_replay yX7_replay ∈ mGW := mIn 948 (by decide +kernel) rfl
theorem wd_X7_replay : yX7_replay.cls ≠ "java/lang/invoke/MethodHandle" ∧ yX7_replay.cls ≠ "java/lang/invoke/VarHandle" ∧ (parseMethodDescriptor yX7_replay.desc).map (fun d => d.parameters.length) = some 2 := by decide +kernel
theorem wc_X7_tells : Cond.code yX7_tells cX7_tells 4 (some .int) ∈ mGW := mIn 953 (by decide +kernel) rfl
theorem wi_X7_tells : Cond.instanceMethod yX7_tells ∈ mGW := mIn 951 (by decide +kernel) rfl
theorem wl_X7_tells : Cond.selects RX7 yX7_tells yX7_tells ∈ mGW := mIn 952 (by decide +kernel) rfl
theorem wd_X7_tells : yX7_tells.cls ≠ "java/lang/invoke/MethodHandle" ∧ yX7_tells.cls ≠ "java/lang/invoke/VarHandle" ∧ (parseMethodDescriptor yX7_tells.desc).map (fun d => d.parameters.length) = some 2 := by decide +kernel
theorem wc_X7_film : Cond.code yX7_film cX7_film 5 (some .int) ∈ mGW := mIn 982 (by decide +kernel) rfl
theorem wi_X7_film : Cond.instanceMethod yX7_film ∈ mGW := mIn 980 (by decide +kernel) rfl
theorem wl_X7_film : Cond.selects RX7 yX7_film yX7_film ∈ mGW := mIn 981 (by decide +kernel) rfl
theorem wd_X7_film : yX7_film.cls ≠ "java/lang/invoke/MethodHandle" ∧ yX7_film.cls ≠ "java/lang/invoke/VarHandle" ∧ (parseMethodDescriptor yX7_film.desc).map (fun d => d.parameters.length) = some 1 := by decide +kernel
theorem wc_X7_image : Cond.code yX7_image cX7_image 1 (some .int) ∈ mGW := mIn 992 (by decide +kernel) rfl
theorem wi_X7_image : Cond.instanceMethod yX7_image ∈ mGW := mIn 990 (by decide +kernel) rfl
theorem wl_X7_image : Cond.selects RX7 yX7_image yX7_image ∈ mGW := mIn 991 (by decide +kernel) rfl
theorem wd_X7_image : yX7_image.cls ≠ "java/lang/invoke/MethodHandle" ∧ yX7_image.cls ≠ "java/lang/invoke/VarHandle" ∧ (parseMethodDescriptor yX7_image.desc).map (fun d => d.parameters.length) = some 0 := by decide +kernel
theorem wc_X7_back : Cond.code yX7_back cX7_back 1 (some .int) ∈ mGW := mIn 1001 (by decide +kernel) rfl
theorem wi_X7_back : Cond.instanceMethod yX7_back ∈ mGW := mIn 999 (by decide +kernel) rfl
theorem wl_X7_back : Cond.selects RX7 yX7_back yX7_back ∈ mGW := mIn 1000 (by decide +kernel) rfl
theorem wd_X7_back : yX7_back.cls ≠ "java/lang/invoke/MethodHandle" ∧ yX7_back.cls ≠ "java/lang/invoke/VarHandle" ∧ (parseMethodDescriptor yX7_back.desc).map (fun d => d.parameters.length) = some 0 := by decide +kernel
theorem wc_X7_sheet : Cond.code yX7_sheet cX7_sheet 5 (some .int) ∈ mGW := mIn 1005 (by decide +kernel) rfl
theorem wi_X7_sheet : Cond.instanceMethod yX7_sheet ∈ mGW := mIn 1003 (by decide +kernel) rfl
theorem wl_X7_sheet : Cond.selects RX7 yX7_sheet yX7_sheet ∈ mGW := mIn 1004 (by decide +kernel) rfl
theorem wd_X7_sheet : yX7_sheet.cls ≠ "java/lang/invoke/MethodHandle" ∧ yX7_sheet.cls ≠ "java/lang/invoke/VarHandle" ∧ (parseMethodDescriptor yX7_sheet.desc).map (fun d => d.parameters.length) = some 3 := by decide +kernel
theorem wc_X7_cell : Cond.code yX7_cell cX7_cell 5 (some .int) ∈ mGW := mIn 1009 (by decide +kernel) rfl
theorem wi_X7_cell : Cond.instanceMethod yX7_cell ∈ mGW := mIn 1007 (by decide +kernel) rfl
theorem wl_X7_cell : Cond.selects RX7 yX7_cell yX7_cell ∈ mGW := mIn 1008 (by decide +kernel) rfl
theorem wd_X7_cell : yX7_cell.cls ≠ "java/lang/invoke/MethodHandle" ∧ yX7_cell.cls ≠ "java/lang/invoke/VarHandle" ∧ (parseMethodDescriptor yX7_cell.desc).map (fun d => d.parameters.length) = some 3 := by decide +kernel
theorem wc_X7_copy : Cond.code yX7_copy cX7_copy 8 (some .int) ∈ mGW := mIn 1013 (by decide +kernel) rfl
theorem wi_X7_copy : Cond.instanceMethod yX7_copy ∈ mGW := mIn 1011 (by decide +kernel) rfl
theorem wl_X7_copy : Cond.selects RX7 yX7_copy yX7_copy ∈ mGW := mIn 1012 (by decide +kernel) rfl
theorem wd_X7_copy : yX7_copy.cls ≠ "java/lang/invoke/MethodHandle" ∧ yX7_copy.cls ≠ "java/lang/invoke/VarHandle" ∧ (parseMethodDescriptor yX7_copy.desc).map (fun d => d.parameters.length) = some 5 := by decide +kernel
theorem wc_X7_refusalOf : Cond.code yX7_refusalOf cX7_refusalOf 3 (some .int) ∈ mGW := mIn 477 (by decide +kernel) rfl
theorem wi_X7_refusalOf : Cond.instanceMethod yX7_refusalOf ∈ mGW := mIn 476 (by decide +kernel) rfl
theorem wl_X7_refusalOf : Cond.selects RX7 yX7_refusalOf yX7_refusalOf ∈ mGW := mInS 8 (by decide +kernel) rfl
theorem wd_X7_refusalOf : yX7_refusalOf.cls ≠ "java/lang/invoke/MethodHandle" ∧ yX7_refusalOf.cls ≠ "java/lang/invoke/VarHandle" ∧ (parseMethodDescriptor yX7_refusalOf.desc).map (fun d => d.parameters.length) = some 2 := by decide +kernel
theorem wc_X7_fitsWord : Cond.code yX7_fitsWord cX7_fitsWord 2 (some .boolean) ∈ mGW := mIn 504 (by decide +kernel) rfl
theorem wt_X7_fitsWord : Cond.static yX7_fitsWord ∈ mGW := mIn 503 (by decide +kernel) rfl
theorem wd_X7_fitsWord : yX7_fitsWord.cls ≠ "java/lang/invoke/MethodHandle" ∧ yX7_fitsWord.cls ≠ "java/lang/invoke/VarHandle" ∧ (parseMethodDescriptor yX7_fitsWord.desc).map (fun d => d.parameters.length) = some 2 := by decide +kernel
theorem wc_X7_isFair : Cond.code yX7_isFair cX7_isFair 4 (some .boolean) ∈ mGW := mIn 508 (by decide +kernel) rfl
theorem wi_X7_isFair : Cond.instanceMethod yX7_isFair ∈ mGW := mIn 507 (by decide +kernel) rfl
theorem wl_X7_isFair : Cond.selects RX7 yX7_isFair yX7_isFair ∈ mGW := mInS 9 (by decide +kernel) rfl
theorem wd_X7_isFair : yX7_isFair.cls ≠ "java/lang/invoke/MethodHandle" ∧ yX7_isFair.cls ≠ "java/lang/invoke/VarHandle" ∧ (parseMethodDescriptor yX7_isFair.desc).map (fun d => d.parameters.length) = some 3 := by decide +kernel
theorem wc_X7_goThrough : Cond.code yX7_goThrough cX7_goThrough 4 (none) ∈ mGW := mIn 671 (by decide +kernel) rfl
theorem wi_X7_goThrough : Cond.instanceMethod yX7_goThrough ∈ mGW := mIn 670 (by decide +kernel) rfl
theorem wl_X7_goThrough : Cond.selects RX7 yX7_goThrough yX7_goThrough ∈ mGW := mInS 17 (by decide +kernel) rfl
theorem wd_X7_goThrough : yX7_goThrough.cls ≠ "java/lang/invoke/MethodHandle" ∧ yX7_goThrough.cls ≠ "java/lang/invoke/VarHandle" ∧ (parseMethodDescriptor yX7_goThrough.desc).map (fun d => d.parameters.length) = some 2 := by decide +kernel
theorem wc_X7_writeLine : Cond.code yX7_writeLine cX7_writeLine 4 (none) ∈ mGW := mIn 684 (by decide +kernel) rfl
theorem wi_X7_writeLine : Cond.instanceMethod yX7_writeLine ∈ mGW := mIn 683 (by decide +kernel) rfl
theorem wl_X7_writeLine : Cond.selects RX7 yX7_writeLine yX7_writeLine ∈ mGW := mInS 18 (by decide +kernel) rfl
theorem wd_X7_writeLine : yX7_writeLine.cls ≠ "java/lang/invoke/MethodHandle" ∧ yX7_writeLine.cls ≠ "java/lang/invoke/VarHandle" ∧ (parseMethodDescriptor yX7_writeLine.desc).map (fun d => d.parameters.length) = some 3 := by decide +kernel
theorem wc_X7_wordText : Cond.code yX7_wordText cX7_wordText 1 (some (.object "java/lang/String")) ∈ mGW := mIn 397 (by decide +kernel) rfl
theorem wt_X7_wordText : Cond.static yX7_wordText ∈ mGW := mIn 396 (by decide +kernel) rfl
theorem wd_X7_wordText : yX7_wordText.cls ≠ "java/lang/invoke/MethodHandle" ∧ yX7_wordText.cls ≠ "java/lang/invoke/VarHandle" ∧ (parseMethodDescriptor yX7_wordText.desc).map (fun d => d.parameters.length) = some 1 := by decide +kernel
theorem wc_X7_suitLetter : Cond.code yX7_suitLetter cX7_suitLetter 1 (some .char) ∈ mGW := mIn 469 (by decide +kernel) rfl
theorem wt_X7_suitLetter : Cond.static yX7_suitLetter ∈ mGW := mIn 468 (by decide +kernel) rfl
theorem wd_X7_suitLetter : yX7_suitLetter.cls ≠ "java/lang/invoke/MethodHandle" ∧ yX7_suitLetter.cls ≠ "java/lang/invoke/VarHandle" ∧ (parseMethodDescriptor yX7_suitLetter.desc).map (fun d => d.parameters.length) = some 1 := by decide +kernel
theorem wc_X7_openNow : Cond.code yX7_openNow cX7_openNow 2 (some .int) ∈ mGW := mIn 538 (by decide +kernel) rfl
theorem wi_X7_openNow : Cond.instanceMethod yX7_openNow ∈ mGW := mIn 537 (by decide +kernel) rfl
theorem wl_X7_openNow : Cond.selects RX7 yX7_openNow yX7_openNow ∈ mGW := mInS 11 (by decide +kernel) rfl
theorem wd_X7_openNow : yX7_openNow.cls ≠ "java/lang/invoke/MethodHandle" ∧ yX7_openNow.cls ≠ "java/lang/invoke/VarHandle" ∧ (parseMethodDescriptor yX7_openNow.desc).map (fun d => d.parameters.length) = some 0 := by decide +kernel
theorem wc_X7_gainsOf : Cond.code yX7_gainsOf cX7_gainsOf 3 (some .int) ∈ mGW := mIn 922 (by decide +kernel) rfl
theorem wi_X7_gainsOf : Cond.instanceMethod yX7_gainsOf ∈ mGW := mIn 921 (by decide +kernel) rfl
theorem wl_X7_gainsOf : Cond.selects RX7 yX7_gainsOf yX7_gainsOf ∈ mGW := mInS 19 (by decide +kernel) rfl
theorem wd_X7_gainsOf : yX7_gainsOf.cls ≠ "java/lang/invoke/MethodHandle" ∧ yX7_gainsOf.cls ≠ "java/lang/invoke/VarHandle" ∧ (parseMethodDescriptor yX7_gainsOf.desc).map (fun d => d.parameters.length) = some 1 := by decide +kernel
theorem wc_X7_mostMade : Cond.code yX7_mostMade cX7_mostMade 12 (some .int) ∈ mGW := mIn 554 (by decide +kernel) rfl
theorem wt_X7_mostMade : Cond.static yX7_mostMade ∈ mGW := mIn 553 (by decide +kernel) rfl
theorem wd_X7_mostMade : yX7_mostMade.cls ≠ "java/lang/invoke/MethodHandle" ∧ yX7_mostMade.cls ≠ "java/lang/invoke/VarHandle" ∧ (parseMethodDescriptor yX7_mostMade.desc).map (fun d => d.parameters.length) = some 3 := by decide +kernel
theorem wc_X7_drawnMade : Cond.code yX7_drawnMade cX7_drawnMade 7 (some .int) ∈ mGW := mIn 934 (by decide +kernel) rfl
theorem wi_X7_drawnMade : Cond.instanceMethod yX7_drawnMade ∈ mGW := mIn 933 (by decide +kernel) rfl
theorem wl_X7_drawnMade : Cond.selects RX7 yX7_drawnMade yX7_drawnMade ∈ mGW := mInS 20 (by decide +kernel) rfl
theorem wd_X7_drawnMade : yX7_drawnMade.cls ≠ "java/lang/invoke/MethodHandle" ∧ yX7_drawnMade.cls ≠ "java/lang/invoke/VarHandle" ∧ (parseMethodDescriptor yX7_drawnMade.desc).map (fun d => d.parameters.length) = some 1 := by decide +kernel
theorem wc_X7_inLowestTerms : Cond.code yX7_inLowestTerms cX7_inLowestTerms 4 (some .int) ∈ mGW := mIn 945 (by decide +kernel) rfl
theorem wt_X7_inLowestTerms : Cond.static yX7_inLowestTerms ∈ mGW := mIn 944 (by decide +kernel) rfl
theorem wd_X7_inLowestTerms : yX7_inLowestTerms.cls ≠ "java/lang/invoke/MethodHandle" ∧ yX7_inLowestTerms.cls ≠ "java/lang/invoke/VarHandle" ∧ (parseMethodDescriptor yX7_inLowestTerms.desc).map (fun d => d.parameters.length) = some 3 := by decide +kernel
theorem wc_X7_firstOtherwise : Cond.code yX7_firstOtherwise cX7_firstOtherwise 5 (some .int) ∈ mGW := mIn 965 (by decide +kernel) rfl
theorem wi_X7_firstOtherwise : Cond.instanceMethod yX7_firstOtherwise ∈ mGW := mIn 964 (by decide +kernel) rfl
theorem wl_X7_firstOtherwise : Cond.selects RX7 yX7_firstOtherwise yX7_firstOtherwise ∈ mGW := mInS 22 (by decide +kernel) rfl
theorem wd_X7_firstOtherwise : yX7_firstOtherwise.cls ≠ "java/lang/invoke/MethodHandle" ∧ yX7_firstOtherwise.cls ≠ "java/lang/invoke/VarHandle" ∧ (parseMethodDescriptor yX7_firstOtherwise.desc).map (fun d => d.parameters.length) = some 1 := by decide +kernel
theorem wc_X7_trumpsThatFit : Cond.code yX7_trumpsThatFit cX7_trumpsThatFit 4 (some .int) ∈ mGW := mIn 969 (by decide +kernel) rfl
theorem wi_X7_trumpsThatFit : Cond.instanceMethod yX7_trumpsThatFit ∈ mGW := mIn 968 (by decide +kernel) rfl
theorem wl_X7_trumpsThatFit : Cond.selects RX7 yX7_trumpsThatFit yX7_trumpsThatFit ∈ mGW := mInS 23 (by decide +kernel) rfl
theorem wd_X7_trumpsThatFit : yX7_trumpsThatFit.cls ≠ "java/lang/invoke/MethodHandle" ∧ yX7_trumpsThatFit.cls ≠ "java/lang/invoke/VarHandle" ∧ (parseMethodDescriptor yX7_trumpsThatFit.desc).map (fun d => d.parameters.length) = some 1 := by decide +kernel
theorem wc_X7_rankingsThatFit : Cond.code yX7_rankingsThatFit cX7_rankingsThatFit 5 (some .int) ∈ mGW := mIn 978 (by decide +kernel) rfl
theorem wi_X7_rankingsThatFit : Cond.instanceMethod yX7_rankingsThatFit ∈ mGW := mIn 977 (by decide +kernel) rfl
theorem wl_X7_rankingsThatFit : Cond.selects RX7 yX7_rankingsThatFit yX7_rankingsThatFit ∈ mGW := mInS 25 (by decide +kernel) rfl
theorem wd_X7_rankingsThatFit : yX7_rankingsThatFit.cls ≠ "java/lang/invoke/MethodHandle" ∧ yX7_rankingsThatFit.cls ≠ "java/lang/invoke/VarHandle" ∧ (parseMethodDescriptor yX7_rankingsThatFit.desc).map (fun d => d.parameters.length) = some 1 := by decide +kernel
theorem wc_X7_wouldBeSo : Cond.code yX7_wouldBeSo cX7_wouldBeSo 5 (some .boolean) ∈ mGW := mIn 973 (by decide +kernel) rfl
theorem wi_X7_wouldBeSo : Cond.instanceMethod yX7_wouldBeSo ∈ mGW := mIn 972 (by decide +kernel) rfl
theorem wl_X7_wouldBeSo : Cond.selects RX7 yX7_wouldBeSo yX7_wouldBeSo ∈ mGW := mInS 24 (by decide +kernel) rfl
theorem wd_X7_wouldBeSo : yX7_wouldBeSo.cls ≠ "java/lang/invoke/MethodHandle" ∧ yX7_wouldBeSo.cls ≠ "java/lang/invoke/VarHandle" ∧ (parseMethodDescriptor yX7_wouldBeSo.desc).map (fun d => d.parameters.length) = some 3 := by decide +kernel
theorem wc_X7_at : Cond.code yX7_at cX7_at 2 (some .int) ∈ mGW := mIn 386 (by decide +kernel) rfl
theorem wt_X7_at : Cond.static yX7_at ∈ mGW := mIn 385 (by decide +kernel) rfl
theorem wd_X7_at : yX7_at.cls ≠ "java/lang/invoke/MethodHandle" ∧ yX7_at.cls ≠ "java/lang/invoke/VarHandle" ∧ (parseMethodDescriptor yX7_at.desc).map (fun d => d.parameters.length) = some 2 := by decide +kernel
theorem wc_X7_set : Cond.code yX7_set cX7_set 3 (none) ∈ mGW := mIn 367 (by decide +kernel) rfl
theorem wt_X7_set : Cond.static yX7_set ∈ mGW := mIn 366 (by decide +kernel) rfl
theorem wd_X7_set : yX7_set.cls ≠ "java/lang/invoke/MethodHandle" ∧ yX7_set.cls ≠ "java/lang/invoke/VarHandle" ∧ (parseMethodDescriptor yX7_set.desc).map (fun d => d.parameters.length) = some 3 := by decide +kernel
theorem wc_X7_fill : Cond.code yX7_fill cX7_fill 3 (none) ∈ mGW := mIn 234 (by decide +kernel) rfl
theorem wt_X7_fill : Cond.static yX7_fill ∈ mGW := mIn 233 (by decide +kernel) rfl
theorem wd_X7_fill : yX7_fill.cls ≠ "java/lang/invoke/MethodHandle" ∧ yX7_fill.cls ≠ "java/lang/invoke/VarHandle" ∧ (parseMethodDescriptor yX7_fill.desc).map (fun d => d.parameters.length) = some 2 := by decide +kernel
theorem wc_X7_take : Cond.code yX7_take cX7_take 2 (none) ∈ mGW := mIn 545 (by decide +kernel) rfl
theorem wt_X7_take : Cond.static yX7_take ∈ mGW := mIn 544 (by decide +kernel) rfl
theorem wd_X7_take : yX7_take.cls ≠ "java/lang/invoke/MethodHandle" ∧ yX7_take.cls ≠ "java/lang/invoke/VarHandle" ∧ (parseMethodDescriptor yX7_take.desc).map (fun d => d.parameters.length) = some 2 := by decide +kernel
theorem wc_X7_sheetAt : Cond.code yX7_sheetAt cX7_sheetAt 2 (some (.object "TrickHouse$Sheet")) ∈ mGW := mIn 957 (by decide +kernel) rfl
theorem wi_X7_sheetAt : Cond.instanceMethod yX7_sheetAt ∈ mGW := mIn 956 (by decide +kernel) rfl
theorem wl_X7_sheetAt : Cond.selects RX7 yX7_sheetAt yX7_sheetAt ∈ mGW := mInS 21 (by decide +kernel) rfl
theorem wd_X7_sheetAt : yX7_sheetAt.cls ≠ "java/lang/invoke/MethodHandle" ∧ yX7_sheetAt.cls ≠ "java/lang/invoke/VarHandle" ∧ (parseMethodDescriptor yX7_sheetAt.desc).map (fun d => d.parameters.length) = some 1 := by decide +kernel
theorem wc_X7_isByte : Cond.code yX7_isByte cX7_isByte 1 (some .boolean) ∈ mGW := mIn 360 (by decide +kernel) rfl
theorem wt_X7_isByte : Cond.static yX7_isByte ∈ mGW := mIn 359 (by decide +kernel) rfl
theorem wd_X7_isByte : yX7_isByte.cls ≠ "java/lang/invoke/MethodHandle" ∧ yX7_isByte.cls ≠ "java/lang/invoke/VarHandle" ∧ (parseMethodDescriptor yX7_isByte.desc).map (fun d => d.parameters.length) = some 1 := by decide +kernel
theorem wc_X7_isCard : Cond.code yX7_isCard cX7_isCard 1 (some .boolean) ∈ mGW := mIn 572 (by decide +kernel) rfl
theorem wt_X7_isCard : Cond.static yX7_isCard ∈ mGW := mIn 571 (by decide +kernel) rfl
theorem wd_X7_isCard : yX7_isCard.cls ≠ "java/lang/invoke/MethodHandle" ∧ yX7_isCard.cls ≠ "java/lang/invoke/VarHandle" ∧ (parseMethodDescriptor yX7_isCard.desc).map (fun d => d.parameters.length) = some 1 := by decide +kernel
theorem wc_X7_isHouse : Cond.code yX7_isHouse cX7_isHouse 1 (some .boolean) ∈ mGW := mIn 896 (by decide +kernel) rfl
theorem wt_X7_isHouse : Cond.static yX7_isHouse ∈ mGW := mIn 895 (by decide +kernel) rfl
theorem wd_X7_isHouse : yX7_isHouse.cls ≠ "java/lang/invoke/MethodHandle" ∧ yX7_isHouse.cls ≠ "java/lang/invoke/VarHandle" ∧ (parseMethodDescriptor yX7_isHouse.desc).map (fun d => d.parameters.length) = some 1 := by decide +kernel
theorem wc_X7_nextSeed : Cond.code yX7_nextSeed cX7_nextSeed 1 (some .int) ∈ mGW := mIn 611 (by decide +kernel) rfl
theorem wt_X7_nextSeed : Cond.static yX7_nextSeed ∈ mGW := mIn 610 (by decide +kernel) rfl
theorem wd_X7_nextSeed : yX7_nextSeed.cls ≠ "java/lang/invoke/MethodHandle" ∧ yX7_nextSeed.cls ≠ "java/lang/invoke/VarHandle" ∧ (parseMethodDescriptor yX7_nextSeed.desc).map (fun d => d.parameters.length) = some 1 := by decide +kernel
theorem wc_X7_bitOf : Cond.code yX7_bitOf cX7_bitOf 1 (some .int) ∈ mGW := mIn 533 (by decide +kernel) rfl
theorem wt_X7_bitOf : Cond.static yX7_bitOf ∈ mGW := mIn 532 (by decide +kernel) rfl
theorem wd_X7_bitOf : yX7_bitOf.cls ≠ "java/lang/invoke/MethodHandle" ∧ yX7_bitOf.cls ≠ "java/lang/invoke/VarHandle" ∧ (parseMethodDescriptor yX7_bitOf.desc).map (fun d => d.parameters.length) = some 1 := by decide +kernel
theorem wc_X7_bitsOfSuit : Cond.code yX7_bitsOfSuit cX7_bitsOfSuit 1 (some .int) ∈ mGW := mIn 520 (by decide +kernel) rfl
theorem wt_X7_bitsOfSuit : Cond.static yX7_bitsOfSuit ∈ mGW := mIn 519 (by decide +kernel) rfl
theorem wd_X7_bitsOfSuit : yX7_bitsOfSuit.cls ≠ "java/lang/invoke/MethodHandle" ∧ yX7_bitsOfSuit.cls ≠ "java/lang/invoke/VarHandle" ∧ (parseMethodDescriptor yX7_bitsOfSuit.desc).map (fun d => d.parameters.length) = some 1 := by decide +kernel
theorem wc_X7_lowestCard : Cond.code yX7_lowestCard cX7_lowestCard 1 (some .int) ∈ mGW := mIn 565 (by decide +kernel) rfl
theorem wt_X7_lowestCard : Cond.static yX7_lowestCard ∈ mGW := mIn 564 (by decide +kernel) rfl
theorem wd_X7_lowestCard : yX7_lowestCard.cls ≠ "java/lang/invoke/MethodHandle" ∧ yX7_lowestCard.cls ≠ "java/lang/invoke/VarHandle" ∧ (parseMethodDescriptor yX7_lowestCard.desc).map (fun d => d.parameters.length) = some 1 := by decide +kernel
theorem wc_X7_cardByNumber : Cond.code yX7_cardByNumber cX7_cardByNumber 4 (some .int) ∈ mGW := mIn 938 (by decide +kernel) rfl
theorem wt_X7_cardByNumber : Cond.static yX7_cardByNumber ∈ mGW := mIn 937 (by decide +kernel) rfl
theorem wd_X7_cardByNumber : yX7_cardByNumber.cls ≠ "java/lang/invoke/MethodHandle" ∧ yX7_cardByNumber.cls ≠ "java/lang/invoke/VarHandle" ∧ (parseMethodDescriptor yX7_cardByNumber.desc).map (fun d => d.parameters.length) = some 2 := by decide +kernel
theorem wc_X7_strengthOf : Cond.code yX7_strengthOf cX7_strengthOf 4 (some .int) ∈ mGW := mIn 527 (by decide +kernel) rfl
theorem wt_X7_strengthOf : Cond.static yX7_strengthOf ∈ mGW := mIn 526 (by decide +kernel) rfl
theorem wd_X7_strengthOf : yX7_strengthOf.cls ≠ "java/lang/invoke/MethodHandle" ∧ yX7_strengthOf.cls ≠ "java/lang/invoke/VarHandle" ∧ (parseMethodDescriptor yX7_strengthOf.desc).map (fun d => d.parameters.length) = some 3 := by decide +kernel
theorem wc_X7_scoreBy : Cond.code yX7_scoreBy cX7_scoreBy 9 (some .int) ∈ mGW := mIn 657 (by decide +kernel) rfl
theorem wt_X7_scoreBy : Cond.static yX7_scoreBy ∈ mGW := mIn 656 (by decide +kernel) rfl
theorem wd_X7_scoreBy : yX7_scoreBy.cls ≠ "java/lang/invoke/MethodHandle" ∧ yX7_scoreBy.cls ≠ "java/lang/invoke/VarHandle" ∧ (parseMethodDescriptor yX7_scoreBy.desc).map (fun d => d.parameters.length) = some 5 := by decide +kernel
theorem wc_X8_init : Cond.code yX8_init cX8_init 1 (none) ∈ mGW := mIn 1022 (by decide +kernel) rfl
theorem wi_X8_init : Cond.instanceMethod yX8_init ∈ mGW := mIn 1021 (by decide +kernel) rfl
theorem wd_X8_init : yX8_init.cls ≠ "java/lang/invoke/MethodHandle" ∧ yX8_init.cls ≠ "java/lang/invoke/VarHandle" ∧ (parseMethodDescriptor yX8_init.desc).map (fun d => d.parameters.length) = some 0 := by decide +kernel
theorem wc_X8_in : Cond.code yX8_in cX8_in 3 (some .boolean) ∈ mGW := mIn 1238 (by decide +kernel) rfl
theorem wt_X8_in : Cond.static yX8_in ∈ mGW := mIn 1237 (by decide +kernel) rfl
theorem wd_X8_in : yX8_in.cls ≠ "java/lang/invoke/MethodHandle" ∧ yX8_in.cls ≠ "java/lang/invoke/VarHandle" ∧ (parseMethodDescriptor yX8_in.desc).map (fun d => d.parameters.length) = some 3 := by decide +kernel
theorem wc_X8_side : Cond.code yX8_side cX8_side 1 (some .int) ∈ mGW := mIn 1211 (by decide +kernel) rfl
theorem wt_X8_side : Cond.static yX8_side ∈ mGW := mIn 1210 (by decide +kernel) rfl
theorem wd_X8_side : yX8_side.cls ≠ "java/lang/invoke/MethodHandle" ∧ yX8_side.cls ≠ "java/lang/invoke/VarHandle" ∧ (parseMethodDescriptor yX8_side.desc).map (fun d => d.parameters.length) = some 1 := by decide +kernel
theorem wc_X8_bit : Cond.code yX8_bit cX8_bit 1 (some .int) ∈ mGW := mIn 1208 (by decide +kernel) rfl
theorem wt_X8_bit : Cond.static yX8_bit ∈ mGW := mIn 1207 (by decide +kernel) rfl
theorem wd_X8_bit : yX8_bit.cls ≠ "java/lang/invoke/MethodHandle" ∧ yX8_bit.cls ≠ "java/lang/invoke/VarHandle" ∧ (parseMethodDescriptor yX8_bit.desc).map (fun d => d.parameters.length) = some 1 := by decide +kernel
theorem wc_X8_has : Cond.code yX8_has cX8_has 2 (some .boolean) ∈ mGW := mIn 1205 (by decide +kernel) rfl
theorem wt_X8_has : Cond.static yX8_has ∈ mGW := mIn 1204 (by decide +kernel) rfl
theorem wd_X8_has : yX8_has.cls ≠ "java/lang/invoke/MethodHandle" ∧ yX8_has.cls ≠ "java/lang/invoke/VarHandle" ∧ (parseMethodDescriptor yX8_has.desc).map (fun d => d.parameters.length) = some 2 := by decide +kernel
theorem wc_X8_clears : Cond.code yX8_clears cX8_clears 3 (none) ∈ mGW := mIn 1033 (by decide +kernel) rfl
theorem wi_X8_clears : Cond.instanceMethod yX8_clears ∈ mGW := mIn 1032 (by decide +kernel) rfl
theorem wl_X8_clears : Cond.selects RX8 yX8_clears yX8_clears ∈ mGW := mInS 27 (by decide +kernel) rfl
theorem wd_X8_clears : yX8_clears.cls ≠ "java/lang/invoke/MethodHandle" ∧ yX8_clears.cls ≠ "java/lang/invoke/VarHandle" ∧ (parseMethodDescriptor yX8_clears.desc).map (fun d => d.parameters.length) = some 0 := by decide +kernel
theorem wc_X8_begins : Cond.code yX8_begins cX8_begins 2 (none) ∈ mGW := mIn 1029 (by decide +kernel) rfl
theorem wi_X8_begins : Cond.instanceMethod yX8_begins ∈ mGW := mIn 1028 (by decide +kernel) rfl
theorem wl_X8_begins : Cond.selects RX8 yX8_begins yX8_begins ∈ mGW := mInS 26 (by decide +kernel) rfl
theorem wd_X8_begins : yX8_begins.cls ≠ "java/lang/invoke/MethodHandle" ∧ yX8_begins.cls ≠ "java/lang/invoke/VarHandle" ∧ (parseMethodDescriptor yX8_begins.desc).map (fun d => d.parameters.length) = some 0 := by decide +kernel
theorem wc_X8_strengthBy : Cond.code yX8_strengthBy cX8_strengthBy 5 (some .int) ∈ mGW := mIn 1201 (by decide +kernel) rfl
theorem wt_X8_strengthBy : Cond.static yX8_strengthBy ∈ mGW := mIn 1200 (by decide +kernel) rfl
theorem wd_X8_strengthBy : yX8_strengthBy.cls ≠ "java/lang/invoke/MethodHandle" ∧ yX8_strengthBy.cls ≠ "java/lang/invoke/VarHandle" ∧ (parseMethodDescriptor yX8_strengthBy.desc).map (fun d => d.parameters.length) = some 3 := by decide +kernel
theorem wc_X8_wonBy : Cond.code yX8_wonBy cX8_wonBy 9 (some .int) ∈ mGW := mIn 1223 (by decide +kernel) rfl
theorem wi_X8_wonBy : Cond.instanceMethod yX8_wonBy ∈ mGW := mIn 1222 (by decide +kernel) rfl
theorem wl_X8_wonBy : Cond.selects RX8 yX8_wonBy yX8_wonBy ∈ mGW := mInS 34 (by decide +kernel) rfl
theorem wd_X8_wonBy : yX8_wonBy.cls ≠ "java/lang/invoke/MethodHandle" ∧ yX8_wonBy.cls ≠ "java/lang/invoke/VarHandle" ∧ (parseMethodDescriptor yX8_wonBy.desc).map (fun d => d.parameters.length) = some 3 := by decide +kernel
theorem wc_X8_trumpNow : Cond.code yX8_trumpNow cX8_trumpNow 1 (some .int) ∈ mGW := mIn 1198 (by decide +kernel) rfl
theorem wi_X8_trumpNow : Cond.instanceMethod yX8_trumpNow ∈ mGW := mIn 1197 (by decide +kernel) rfl
theorem wl_X8_trumpNow : Cond.selects RX8 yX8_trumpNow yX8_trumpNow ∈ mGW := mInS 31 (by decide +kernel) rfl
theorem wd_X8_trumpNow : yX8_trumpNow.cls ≠ "java/lang/invoke/MethodHandle" ∧ yX8_trumpNow.cls ≠ "java/lang/invoke/VarHandle" ∧ (parseMethodDescriptor yX8_trumpNow.desc).map (fun d => d.parameters.length) = some 0 := by decide +kernel
theorem wc_X8_ofSuit : Cond.code yX8_ofSuit cX8_ofSuit 2 (some .int) ∈ mGW := mIn 1194 (by decide +kernel) rfl
theorem wt_X8_ofSuit : Cond.static yX8_ofSuit ∈ mGW := mIn 1193 (by decide +kernel) rfl
theorem wd_X8_ofSuit : yX8_ofSuit.cls ≠ "java/lang/invoke/MethodHandle" ∧ yX8_ofSuit.cls ≠ "java/lang/invoke/VarHandle" ∧ (parseMethodDescriptor yX8_ofSuit.desc).map (fun d => d.parameters.length) = some 2 := by decide +kernel
theorem wc_X8_mayPlay : Cond.code yX8_mayPlay cX8_mayPlay 7 (some .int) ∈ mGW := mIn 1191 (by decide +kernel) rfl
theorem wi_X8_mayPlay : Cond.instanceMethod yX8_mayPlay ∈ mGW := mIn 1190 (by decide +kernel) rfl
theorem wl_X8_mayPlay : Cond.selects RX8 yX8_mayPlay yX8_mayPlay ∈ mGW := mInS 30 (by decide +kernel) rfl
theorem wd_X8_mayPlay : yX8_mayPlay.cls ≠ "java/lang/invoke/MethodHandle" ∧ yX8_mayPlay.cls ≠ "java/lang/invoke/VarHandle" ∧ (parseMethodDescriptor yX8_mayPlay.desc).map (fun d => d.parameters.length) = some 0 := by decide +kernel
theorem wc_X8_plain : Cond.code yX8_plain cX8_plain 7 (some .int) ∈ mGW := mIn 1341 (by decide +kernel) rfl
theorem wt_X8_plain : Cond.static yX8_plain ∈ mGW := mIn 1340 (by decide +kernel) rfl
theorem wd_X8_plain : yX8_plain.cls ≠ "java/lang/invoke/MethodHandle" ∧ yX8_plain.cls ≠ "java/lang/invoke/VarHandle" ∧ (parseMethodDescriptor yX8_plain.desc).map (fun d => d.parameters.length) = some 4 := by decide +kernel
theorem wc_X8_scored : Cond.code yX8_scored cX8_scored 5 (some .int) ∈ mGW := mIn 1338 (by decide +kernel) rfl
theorem wt_X8_scored : Cond.static yX8_scored ∈ mGW := mIn 1337 (by decide +kernel) rfl
theorem wd_X8_scored : yX8_scored.cls ≠ "java/lang/invoke/MethodHandle" ∧ yX8_scored.cls ≠ "java/lang/invoke/VarHandle" ∧ (parseMethodDescriptor yX8_scored.desc).map (fun d => d.parameters.length) = some 5 := by decide +kernel
theorem wc_X8_endsDeal : Cond.code yX8_endsDeal cX8_endsDeal 3 (none) ∈ mGW := mIn 1335 (by decide +kernel) rfl
theorem wi_X8_endsDeal : Cond.instanceMethod yX8_endsDeal ∈ mGW := mIn 1334 (by decide +kernel) rfl
theorem wl_X8_endsDeal : Cond.selects RX8 yX8_endsDeal yX8_endsDeal ∈ mGW := mInS 51 (by decide +kernel) rfl
theorem wd_X8_endsDeal : yX8_endsDeal.cls ≠ "java/lang/invoke/MethodHandle" ∧ yX8_endsDeal.cls ≠ "java/lang/invoke/VarHandle" ∧ (parseMethodDescriptor yX8_endsDeal.desc).map (fun d => d.parameters.length) = some 1 := by decide +kernel
theorem wc_X8_deals : Cond.code yX8_deals cX8_deals 6 (none) ∈ mGW := mIn 1322 (by decide +kernel) rfl
theorem wi_X8_deals : Cond.instanceMethod yX8_deals ∈ mGW := mIn 1321 (by decide +kernel) rfl
theorem wl_X8_deals : Cond.selects RX8 yX8_deals yX8_deals ∈ mGW := mInS 48 (by decide +kernel) rfl
theorem wd_X8_deals : yX8_deals.cls ≠ "java/lang/invoke/MethodHandle" ∧ yX8_deals.cls ≠ "java/lang/invoke/VarHandle" ∧ (parseMethodDescriptor yX8_deals.desc).map (fun d => d.parameters.length) = some 1 := by decide +kernel
theorem wc_X8_leads : Cond.code yX8_leads cX8_leads 2 (none) ∈ mGW := mIn 1227 (by decide +kernel) rfl
theorem wi_X8_leads : Cond.instanceMethod yX8_leads ∈ mGW := mIn 1226 (by decide +kernel) rfl
theorem wl_X8_leads : Cond.selects RX8 yX8_leads yX8_leads ∈ mGW := mInS 35 (by decide +kernel) rfl
theorem wd_X8_leads : yX8_leads.cls ≠ "java/lang/invoke/MethodHandle" ∧ yX8_leads.cls ≠ "java/lang/invoke/VarHandle" ∧ (parseMethodDescriptor yX8_leads.desc).map (fun d => d.parameters.length) = some 1 := by decide +kernel
theorem wc_X8_passes : Cond.code yX8_passes cX8_passes 1 (none) ∈ mGW := mIn 1331 (by decide +kernel) rfl
theorem wi_X8_passes : Cond.instanceMethod yX8_passes ∈ mGW := mIn 1330 (by decide +kernel) rfl
theorem wl_X8_passes : Cond.selects RX8 yX8_passes yX8_passes ∈ mGW := mInS 50 (by decide +kernel) rfl
theorem wd_X8_passes : yX8_passes.cls ≠ "java/lang/invoke/MethodHandle" ∧ yX8_passes.cls ≠ "java/lang/invoke/VarHandle" ∧ (parseMethodDescriptor yX8_passes.desc).map (fun d => d.parameters.length) = some 0 := by decide +kernel
theorem wc_X8_bids : Cond.code yX8_bids cX8_bids 3 (none) ∈ mGW := mIn 1327 (by decide +kernel) rfl
theorem wi_X8_bids : Cond.instanceMethod yX8_bids ∈ mGW := mIn 1326 (by decide +kernel) rfl
theorem wl_X8_bids : Cond.selects RX8 yX8_bids yX8_bids ∈ mGW := mInS 49 (by decide +kernel) rfl
theorem wd_X8_bids : yX8_bids.cls ≠ "java/lang/invoke/MethodHandle" ∧ yX8_bids.cls ≠ "java/lang/invoke/VarHandle" ∧ (parseMethodDescriptor yX8_bids.desc).map (fun d => d.parameters.length) = some 2 := by decide +kernel
theorem wc_X8_plays : Cond.code yX8_plays cX8_plays 3 (none) ∈ mGW := mIn 1219 (by decide +kernel) rfl
theorem wi_X8_plays : Cond.instanceMethod yX8_plays ∈ mGW := mIn 1218 (by decide +kernel) rfl
theorem wl_X8_plays : Cond.selects RX8 yX8_plays yX8_plays ∈ mGW := mInS 33 (by decide +kernel) rfl
theorem wd_X8_plays : yX8_plays.cls ≠ "java/lang/invoke/MethodHandle" ∧ yX8_plays.cls ≠ "java/lang/invoke/VarHandle" ∧ (parseMethodDescriptor yX8_plays.desc).map (fun d => d.parameters.length) = some 1 := by decide +kernel
theorem wc_X8_doesAct : Cond.code yX8_doesAct cX8_doesAct 4 (none) ∈ mGW := mIn 1318 (by decide +kernel) rfl
theorem wi_X8_doesAct : Cond.instanceMethod yX8_doesAct ∈ mGW := mIn 1317 (by decide +kernel) rfl
theorem wl_X8_doesAct : Cond.selects RX8 yX8_doesAct yX8_doesAct ∈ mGW := mInS 47 (by decide +kernel) rfl
theorem wd_X8_doesAct : yX8_doesAct.cls ≠ "java/lang/invoke/MethodHandle" ∧ yX8_doesAct.cls ≠ "java/lang/invoke/VarHandle" ∧ (parseMethodDescriptor yX8_doesAct.desc).map (fun d => d.parameters.length) = some 3 := by decide +kernel
theorem wc_X8_goesThrough : Cond.code yX8_goesThrough cX8_goesThrough 3 (none) ∈ mGW := mIn 1349 (by decide +kernel) rfl
theorem wi_X8_goesThrough : Cond.instanceMethod yX8_goesThrough ∈ mGW := mIn 1348 (by decide +kernel) rfl
theorem wl_X8_goesThrough : Cond.selects RX8 yX8_goesThrough yX8_goesThrough ∈ mGW := mInS 52 (by decide +kernel) rfl
theorem wd_X8_goesThrough : yX8_goesThrough.cls ≠ "java/lang/invoke/MethodHandle" ∧ yX8_goesThrough.cls ≠ "java/lang/invoke/VarHandle" ∧ (parseMethodDescriptor yX8_goesThrough.desc).map (fun d => d.parameters.length) = some 1 := by decide +kernel
theorem wc_X8_isLate : Cond.code yX8_isLate cX8_isLate 1 (some .boolean) ∈ mGW := mIn 1183 (by decide +kernel) rfl
theorem wi_X8_isLate : Cond.instanceMethod yX8_isLate ∈ mGW := mIn 1182 (by decide +kernel) rfl
theorem wl_X8_isLate : Cond.selects RX8 yX8_isLate yX8_isLate ∈ mGW := mInS 28 (by decide +kernel) rfl
theorem wd_X8_isLate : yX8_isLate.cls ≠ "java/lang/invoke/MethodHandle" ∧ yX8_isLate.cls ≠ "java/lang/invoke/VarHandle" ∧ (parseMethodDescriptor yX8_isLate.desc).map (fun d => d.parameters.length) = some 0 := by decide +kernel
theorem wc_X8_tried : Cond.code yX8_tried cX8_tried 6 (some .int) ∈ mGW := mIn 1215 (by decide +kernel) rfl
theorem wi_X8_tried : Cond.instanceMethod yX8_tried ∈ mGW := mIn 1214 (by decide +kernel) rfl
theorem wl_X8_tried : Cond.selects RX8 yX8_tried yX8_tried ∈ mGW := mInS 32 (by decide +kernel) rfl
theorem wd_X8_tried : yX8_tried.cls ≠ "java/lang/invoke/MethodHandle" ∧ yX8_tried.cls ≠ "java/lang/invoke/VarHandle" ∧ (parseMethodDescriptor yX8_tried.desc).map (fun d => d.parameters.length) = some 1 := by decide +kernel
theorem wc_X8_solved : Cond.code yX8_solved cX8_solved 6 (some .int) ∈ mGW := mIn 1187 (by decide +kernel) rfl
theorem wi_X8_solved : Cond.instanceMethod yX8_solved ∈ mGW := mIn 1186 (by decide +kernel) rfl
theorem wl_X8_solved : Cond.selects RX8 yX8_solved yX8_solved ∈ mGW := mInS 29 (by decide +kernel) rfl
theorem wd_X8_solved : yX8_solved.cls ≠ "java/lang/invoke/MethodHandle" ∧ yX8_solved.cls ≠ "java/lang/invoke/VarHandle" ∧ (parseMethodDescriptor yX8_solved.desc).map (fun d => d.parameters.length) = some 0 := by decide +kernel
theorem wc_X8_forTurn : Cond.code yX8_forTurn cX8_forTurn 2 (some .int) ∈ mGW := mIn 1231 (by decide +kernel) rfl
theorem wi_X8_forTurn : Cond.instanceMethod yX8_forTurn ∈ mGW := mIn 1230 (by decide +kernel) rfl
theorem wl_X8_forTurn : Cond.selects RX8 yX8_forTurn yX8_forTurn ∈ mGW := mInS 36 (by decide +kernel) rfl
theorem wd_X8_forTurn : yX8_forTurn.cls ≠ "java/lang/invoke/MethodHandle" ∧ yX8_forTurn.cls ≠ "java/lang/invoke/VarHandle" ∧ (parseMethodDescriptor yX8_forTurn.desc).map (fun d => d.parameters.length) = some 1 := by decide +kernel
theorem wc_X8_open : Cond.code yX8_open cX8_open 1 (some .int) ∈ mGW := mIn 1179 (by decide +kernel) rfl
theorem wi_X8_open : Cond.instanceMethod yX8_open ∈ mGW := mIn 1177 (by decide +kernel) rfl
theorem wl_X8_open : Cond.selects RX8 yX8_open yX8_open ∈ mGW := mIn 1178 (by decide +kernel) rfl
theorem wd_X8_open : yX8_open.cls ≠ "java/lang/invoke/MethodHandle" ∧ yX8_open.cls ≠ "java/lang/invoke/VarHandle" ∧ (parseMethodDescriptor yX8_open.desc).map (fun d => d.parameters.length) = some 0 := by decide +kernel
theorem wc_X8_gains : Cond.code yX8_gains cX8_gains 2 (some .int) ∈ mGW := mIn 1235 (by decide +kernel) rfl
theorem wi_X8_gains : Cond.instanceMethod yX8_gains ∈ mGW := mIn 1233 (by decide +kernel) rfl
theorem wl_X8_gains : Cond.selects RX8 yX8_gains yX8_gains ∈ mGW := mIn 1234 (by decide +kernel) rfl
theorem wd_X8_gains : yX8_gains.cls ≠ "java/lang/invoke/MethodHandle" ∧ yX8_gains.cls ≠ "java/lang/invoke/VarHandle" ∧ (parseMethodDescriptor yX8_gains.desc).map (fun d => d.parameters.length) = some 1 := by decide +kernel
theorem wc_X8_best : Cond.code yX8_best cX8_best 9 (some .int) ∈ mGW := mIn 1242 (by decide +kernel) rfl
theorem wi_X8_best : Cond.instanceMethod yX8_best ∈ mGW := mIn 1240 (by decide +kernel) rfl
theorem wl_X8_best : Cond.selects RX8 yX8_best yX8_best ∈ mGW := mIn 1241 (by decide +kernel) rfl
theorem wd_X8_best : yX8_best.cls ≠ "java/lang/invoke/MethodHandle" ∧ yX8_best.cls ≠ "java/lang/invoke/VarHandle" ∧ (parseMethodDescriptor yX8_best.desc).map (fun d => d.parameters.length) = some 1 := by decide +kernel
theorem wc_X8_isByte : Cond.code yX8_isByte cX8_isByte 1 (some .boolean) ∈ mGW := mIn 1249 (by decide +kernel) rfl
theorem wt_X8_isByte : Cond.static yX8_isByte ∈ mGW := mIn 1248 (by decide +kernel) rfl
theorem wd_X8_isByte : yX8_isByte.cls ≠ "java/lang/invoke/MethodHandle" ∧ yX8_isByte.cls ≠ "java/lang/invoke/VarHandle" ∧ (parseMethodDescriptor yX8_isByte.desc).map (fun d => d.parameters.length) = some 1 := by decide +kernel
theorem wc_X8_feed : Cond.code yX8_feed cX8_feed 8 (some .int) ∈ mGW := mIn 1246 (by decide +kernel) rfl
theorem wi_X8_feed : Cond.instanceMethod yX8_feed ∈ mGW := mIn 1244 (by decide +kernel) rfl
theorem wl_X8_feed : Cond.selects RX8 yX8_feed yX8_feed ∈ mGW := mIn 1245 (by decide +kernel) rfl
theorem wd_X8_feed : yX8_feed.cls ≠ "java/lang/invoke/MethodHandle" ∧ yX8_feed.cls ≠ "java/lang/invoke/VarHandle" ∧ (parseMethodDescriptor yX8_feed.desc).map (fun d => d.parameters.length) = some 6 := by decide +kernel
theorem wc_X8_byteAt : Cond.code yX8_byteAt cX8_byteAt 2 (some .int) ∈ mGW := mIn 1265 (by decide +kernel) rfl
theorem wi_X8_byteAt : Cond.instanceMethod yX8_byteAt ∈ mGW := mIn 1264 (by decide +kernel) rfl
theorem wl_X8_byteAt : Cond.selects RX8 yX8_byteAt yX8_byteAt ∈ mGW := mInS 39 (by decide +kernel) rfl
theorem wd_X8_byteAt : yX8_byteAt.cls ≠ "java/lang/invoke/MethodHandle" ∧ yX8_byteAt.cls ≠ "java/lang/invoke/VarHandle" ∧ (parseMethodDescriptor yX8_byteAt.desc).map (fun d => d.parameters.length) = some 1 := by decide +kernel
theorem wc_X8_isWord : Cond.code yX8_isWord cX8_isWord 3 (some .boolean) ∈ mGW := mIn 1274 (by decide +kernel) rfl
theorem wi_X8_isWord : Cond.instanceMethod yX8_isWord ∈ mGW := mIn 1273 (by decide +kernel) rfl
theorem wl_X8_isWord : Cond.selects RX8 yX8_isWord yX8_isWord ∈ mGW := mInS 41 (by decide +kernel) rfl
theorem wd_X8_isWord : yX8_isWord.cls ≠ "java/lang/invoke/MethodHandle" ∧ yX8_isWord.cls ≠ "java/lang/invoke/VarHandle" ∧ (parseMethodDescriptor yX8_isWord.desc).map (fun d => d.parameters.length) = some 1 := by decide +kernel
theorem wc_X8_wordOf : Cond.code yX8_wordOf cX8_wordOf 1 (some (.object "java/lang/String")) ∈ mGW := mIn 1287 (by decide +kernel) rfl
theorem wt_X8_wordOf : Cond.static yX8_wordOf ∈ mGW := mIn 1286 (by decide +kernel) rfl
theorem wd_X8_wordOf : yX8_wordOf.cls ≠ "java/lang/invoke/MethodHandle" ∧ yX8_wordOf.cls ≠ "java/lang/invoke/VarHandle" ∧ (parseMethodDescriptor yX8_wordOf.desc).map (fun d => d.parameters.length) = some 1 := by decide +kernel
theorem wc_X8_wordRead : Cond.code yX8_wordRead cX8_wordRead 2 (some .int) ∈ mGW := mIn 1284 (by decide +kernel) rfl
theorem wi_X8_wordRead : Cond.instanceMethod yX8_wordRead ∈ mGW := mIn 1283 (by decide +kernel) rfl
theorem wl_X8_wordRead : Cond.selects RX8 yX8_wordRead yX8_wordRead ∈ mGW := mInS 42 (by decide +kernel) rfl
theorem wd_X8_wordRead : yX8_wordRead.cls ≠ "java/lang/invoke/MethodHandle" ∧ yX8_wordRead.cls ≠ "java/lang/invoke/VarHandle" ∧ (parseMethodDescriptor yX8_wordRead.desc).map (fun d => d.parameters.length) = some 0 := by decide +kernel
theorem wc_X8_suitRead : Cond.code yX8_suitRead cX8_suitRead 1 (some .int) ∈ mGW := mIn 1269 (by decide +kernel) rfl
theorem wi_X8_suitRead : Cond.instanceMethod yX8_suitRead ∈ mGW := mIn 1268 (by decide +kernel) rfl
theorem wl_X8_suitRead : Cond.selects RX8 yX8_suitRead yX8_suitRead ∈ mGW := mInS 40 (by decide +kernel) rfl
theorem wd_X8_suitRead : yX8_suitRead.cls ≠ "java/lang/invoke/MethodHandle" ∧ yX8_suitRead.cls ≠ "java/lang/invoke/VarHandle" ∧ (parseMethodDescriptor yX8_suitRead.desc).map (fun d => d.parameters.length) = some 0 := by decide +kernel
theorem wc_X8_next : Cond.code yX8_next cX8_next 2 (none) ∈ mGW := mIn 1261 (by decide +kernel) rfl
theorem wi_X8_next : Cond.instanceMethod yX8_next ∈ mGW := mIn 1260 (by decide +kernel) rfl
theorem wl_X8_next : Cond.selects RX8 yX8_next yX8_next ∈ mGW := mInS 38 (by decide +kernel) rfl
theorem wd_X8_next : yX8_next.cls ≠ "java/lang/invoke/MethodHandle" ∧ yX8_next.cls ≠ "java/lang/invoke/VarHandle" ∧ (parseMethodDescriptor yX8_next.desc).map (fun d => d.parameters.length) = some 0 := by decide +kernel
theorem wc_X8_takes : Cond.code yX8_takes cX8_takes 4 (some .int) ∈ mGW := mIn 1300 (by decide +kernel) rfl
theorem wi_X8_takes : Cond.instanceMethod yX8_takes ∈ mGW := mIn 1299 (by decide +kernel) rfl
theorem wl_X8_takes : Cond.selects RX8 yX8_takes yX8_takes ∈ mGW := mInS 43 (by decide +kernel) rfl
theorem wd_X8_takes : yX8_takes.cls ≠ "java/lang/invoke/MethodHandle" ∧ yX8_takes.cls ≠ "java/lang/invoke/VarHandle" ∧ (parseMethodDescriptor yX8_takes.desc).map (fun d => d.parameters.length) = some 2 := by decide +kernel
theorem wc_X8_read : Cond.code yX8_read cX8_read 2 (some .int) ∈ mGW := mIn 1257 (by decide +kernel) rfl
theorem wi_X8_read : Cond.instanceMethod yX8_read ∈ mGW := mIn 1256 (by decide +kernel) rfl
theorem wl_X8_read : Cond.selects RX8 yX8_read yX8_read ∈ mGW := mInS 37 (by decide +kernel) rfl
theorem wd_X8_read : yX8_read.cls ≠ "java/lang/invoke/MethodHandle" ∧ yX8_read.cls ≠ "java/lang/invoke/VarHandle" ∧ (parseMethodDescriptor yX8_read.desc).map (fun d => d.parameters.length) = some 0 := by decide +kernel
theorem wc_X8_isTime : Cond.code yX8_isTime cX8_isTime 2 (some .boolean) ∈ mGW := mIn 1305 (by decide +kernel) rfl
theorem wi_X8_isTime : Cond.instanceMethod yX8_isTime ∈ mGW := mIn 1304 (by decide +kernel) rfl
theorem wl_X8_isTime : Cond.selects RX8 yX8_isTime yX8_isTime ∈ mGW := mInS 44 (by decide +kernel) rfl
theorem wd_X8_isTime : yX8_isTime.cls ≠ "java/lang/invoke/MethodHandle" ∧ yX8_isTime.cls ≠ "java/lang/invoke/VarHandle" ∧ (parseMethodDescriptor yX8_isTime.desc).map (fun d => d.parameters.length) = some 1 := by decide +kernel
theorem wc_X8_isNumber : Cond.code yX8_isNumber cX8_isNumber 2 (some .boolean) ∈ mGW := mIn 1309 (by decide +kernel) rfl
theorem wi_X8_isNumber : Cond.instanceMethod yX8_isNumber ∈ mGW := mIn 1308 (by decide +kernel) rfl
theorem wl_X8_isNumber : Cond.selects RX8 yX8_isNumber yX8_isNumber ∈ mGW := mInS 45 (by decide +kernel) rfl
theorem wd_X8_isNumber : yX8_isNumber.cls ≠ "java/lang/invoke/MethodHandle" ∧ yX8_isNumber.cls ≠ "java/lang/invoke/VarHandle" ∧ (parseMethodDescriptor yX8_isNumber.desc).map (fun d => d.parameters.length) = some 1 := by decide +kernel
theorem wc_X8_isFair : Cond.code yX8_isFair cX8_isFair 2 (some .boolean) ∈ mGW := mIn 1313 (by decide +kernel) rfl
theorem wi_X8_isFair : Cond.instanceMethod yX8_isFair ∈ mGW := mIn 1312 (by decide +kernel) rfl
theorem wl_X8_isFair : Cond.selects RX8 yX8_isFair yX8_isFair ∈ mGW := mInS 46 (by decide +kernel) rfl
theorem wd_X8_isFair : yX8_isFair.cls ≠ "java/lang/invoke/MethodHandle" ∧ yX8_isFair.cls ≠ "java/lang/invoke/VarHandle" ∧ (parseMethodDescriptor yX8_isFair.desc).map (fun d => d.parameters.length) = some 1 := by decide +kernel
theorem wc_X8_act : Cond.code yX8_act cX8_act 2 (some .int) ∈ mGW := mIn 1253 (by decide +kernel) rfl
theorem wi_X8_act : Cond.instanceMethod yX8_act ∈ mGW := mIn 1251 (by decide +kernel) rfl
theorem wl_X8_act : Cond.selects RX8 yX8_act yX8_act ∈ mGW := mIn 1252 (by decide +kernel) rfl
theorem wd_X8_act : yX8_act.cls ≠ "java/lang/invoke/MethodHandle" ∧ yX8_act.cls ≠ "java/lang/invoke/VarHandle" ∧ (parseMethodDescriptor yX8_act.desc).map (fun d => d.parameters.length) = some 0 := by decide +kernel
theorem wc_X8_undo : Cond.code yX8_undo cX8_undo 1 (some .int) ∈ mGW := mIn 1345 (by decide +kernel) rfl
theorem wi_X8_undo : Cond.instanceMethod yX8_undo ∈ mGW := mIn 1343 (by decide +kernel) rfl
theorem wl_X8_undo : Cond.selects RX8 yX8_undo yX8_undo ∈ mGW := mIn 1344 (by decide +kernel) rfl
theorem wd_X8_undo : yX8_undo.cls ≠ "java/lang/invoke/MethodHandle" ∧ yX8_undo.cls ≠ "java/lang/invoke/VarHandle" ∧ (parseMethodDescriptor yX8_undo.desc).map (fun d => d.parameters.length) = some 0 := by decide +kernel
theorem wc_X8_log : Cond.code yX8_log cX8_log 3 (some .int) ∈ mGW := mIn 1353 (by decide +kernel) rfl
theorem wi_X8_log : Cond.instanceMethod yX8_log ∈ mGW := mIn 1351 (by decide +kernel) rfl
theorem wl_X8_log : Cond.selects RX8 yX8_log yX8_log ∈ mGW := mIn 1352 (by decide +kernel) rfl
theorem wd_X8_log : yX8_log.cls ≠ "java/lang/invoke/MethodHandle" ∧ yX8_log.cls ≠ "java/lang/invoke/VarHandle" ∧ (parseMethodDescriptor yX8_log.desc).map (fun d => d.parameters.length) = some 2 := by decide +kernel
theorem wc_X8_textOf : Cond.code yX8_textOf cX8_textOf 4 (some (.object "java/lang/String")) ∈ mGW := mIn 1361 (by decide +kernel) rfl
theorem wi_X8_textOf : Cond.instanceMethod yX8_textOf ∈ mGW := mIn 1360 (by decide +kernel) rfl
theorem wl_X8_textOf : Cond.selects RX8 yX8_textOf yX8_textOf ∈ mGW := mInS 53 (by decide +kernel) rfl
theorem wd_X8_textOf : yX8_textOf.cls ≠ "java/lang/invoke/MethodHandle" ∧ yX8_textOf.cls ≠ "java/lang/invoke/VarHandle" ∧ (parseMethodDescriptor yX8_textOf.desc).map (fun d => d.parameters.length) = some 1 := by decide +kernel
theorem wc_X8_print : Cond.code yX8_print cX8_print 4 (some .int) ∈ mGW := mIn 1357 (by decide +kernel) rfl
theorem wi_X8_print : Cond.instanceMethod yX8_print ∈ mGW := mIn 1355 (by decide +kernel) rfl
theorem wl_X8_print : Cond.selects RX8 yX8_print yX8_print ∈ mGW := mIn 1356 (by decide +kernel) rfl
theorem wd_X8_print : yX8_print.cls ≠ "java/lang/invoke/MethodHandle" ∧ yX8_print.cls ≠ "java/lang/invoke/VarHandle" ∧ (parseMethodDescriptor yX8_print.desc).map (fun d => d.parameters.length) = some 2 := by decide +kernel
theorem wc_X8_answer : Cond.code yX8_answer cX8_answer 2 (some .int) ∈ mGW := mIn 1426 (by decide +kernel) rfl
theorem wi_X8_answer : Cond.instanceMethod yX8_answer ∈ mGW := mIn 1425 (by decide +kernel) rfl
theorem wl_X8_answer : Cond.selects RX8 yX8_answer yX8_answer ∈ mGW := mInS 54 (by decide +kernel) rfl
theorem wd_X8_answer : yX8_answer.cls ≠ "java/lang/invoke/MethodHandle" ∧ yX8_answer.cls ≠ "java/lang/invoke/VarHandle" ∧ (parseMethodDescriptor yX8_answer.desc).map (fun d => d.parameters.length) = some 1 := by decide +kernel
theorem wc_X8_told : Cond.code yX8_told cX8_told 2 (some .int) ∈ mGW := mIn 1422 (by decide +kernel) rfl
theorem wi_X8_told : Cond.instanceMethod yX8_told ∈ mGW := mIn 1420 (by decide +kernel) rfl
theorem wl_X8_told : Cond.selects RX8 yX8_told yX8_told ∈ mGW := mIn 1421 (by decide +kernel) rfl
theorem wd_X8_told : yX8_told.cls ≠ "java/lang/invoke/MethodHandle" ∧ yX8_told.cls ≠ "java/lang/invoke/VarHandle" ∧ (parseMethodDescriptor yX8_told.desc).map (fun d => d.parameters.length) = some 1 := by decide +kernel
theorem wc_X8_hand : Cond.code yX8_hand cX8_hand 3 (some .int) ∈ mGW := mIn 1430 (by decide +kernel) rfl
theorem wi_X8_hand : Cond.instanceMethod yX8_hand ∈ mGW := mIn 1428 (by decide +kernel) rfl
theorem wl_X8_hand : Cond.selects RX8 yX8_hand yX8_hand ∈ mGW := mIn 1429 (by decide +kernel) rfl
theorem wd_X8_hand : yX8_hand.cls ≠ "java/lang/invoke/MethodHandle" ∧ yX8_hand.cls ≠ "java/lang/invoke/VarHandle" ∧ (parseMethodDescriptor yX8_hand.desc).map (fun d => d.parameters.length) = some 2 := by decide +kernel
theorem wc_X8_trick : Cond.code yX8_trick cX8_trick 3 (some .int) ∈ mGW := mIn 1434 (by decide +kernel) rfl
theorem wi_X8_trick : Cond.instanceMethod yX8_trick ∈ mGW := mIn 1432 (by decide +kernel) rfl
theorem wl_X8_trick : Cond.selects RX8 yX8_trick yX8_trick ∈ mGW := mIn 1433 (by decide +kernel) rfl
theorem wd_X8_trick : yX8_trick.cls ≠ "java/lang/invoke/MethodHandle" ∧ yX8_trick.cls ≠ "java/lang/invoke/VarHandle" ∧ (parseMethodDescriptor yX8_trick.desc).map (fun d => d.parameters.length) = some 2 := by decide +kernel
theorem wc_X8_strength : Cond.code yX8_strength cX8_strength 5 (some .int) ∈ mGW := mIn 1438 (by decide +kernel) rfl
theorem wi_X8_strength : Cond.instanceMethod yX8_strength ∈ mGW := mIn 1436 (by decide +kernel) rfl
theorem wl_X8_strength : Cond.selects RX8 yX8_strength yX8_strength ∈ mGW := mIn 1437 (by decide +kernel) rfl
theorem wd_X8_strength : yX8_strength.cls ≠ "java/lang/invoke/MethodHandle" ∧ yX8_strength.cls ≠ "java/lang/invoke/VarHandle" ∧ (parseMethodDescriptor yX8_strength.desc).map (fun d => d.parameters.length) = some 2 := by decide +kernel
theorem wc_X8_taken : Cond.code yX8_taken cX8_taken 5 (some .int) ∈ mGW := mIn 1442 (by decide +kernel) rfl
theorem wi_X8_taken : Cond.instanceMethod yX8_taken ∈ mGW := mIn 1440 (by decide +kernel) rfl
theorem wl_X8_taken : Cond.selects RX8 yX8_taken yX8_taken ∈ mGW := mIn 1441 (by decide +kernel) rfl
theorem wd_X8_taken : yX8_taken.cls ≠ "java/lang/invoke/MethodHandle" ∧ yX8_taken.cls ≠ "java/lang/invoke/VarHandle" ∧ (parseMethodDescriptor yX8_taken.desc).map (fun d => d.parameters.length) = some 2 := by decide +kernel
theorem wc_X8_isHouse : Cond.code yX8_isHouse cX8_isHouse 1 (some .boolean) ∈ mGW := mIn 1449 (by decide +kernel) rfl
theorem wt_X8_isHouse : Cond.static yX8_isHouse ∈ mGW := mIn 1448 (by decide +kernel) rfl
theorem wd_X8_isHouse : yX8_isHouse.cls ≠ "java/lang/invoke/MethodHandle" ∧ yX8_isHouse.cls ≠ "java/lang/invoke/VarHandle" ∧ (parseMethodDescriptor yX8_isHouse.desc).map (fun d => d.parameters.length) = some 1 := by decide +kernel
theorem wc_X8_score : Cond.code yX8_score cX8_score 2 (some .int) ∈ mGW := mIn 1446 (by decide +kernel) rfl
theorem wi_X8_score : Cond.instanceMethod yX8_score ∈ mGW := mIn 1444 (by decide +kernel) rfl
theorem wl_X8_score : Cond.selects RX8 yX8_score yX8_score ∈ mGW := mIn 1445 (by decide +kernel) rfl
theorem wd_X8_score : yX8_score.cls ≠ "java/lang/invoke/MethodHandle" ∧ yX8_score.cls ≠ "java/lang/invoke/VarHandle" ∧ (parseMethodDescriptor yX8_score.desc).map (fun d => d.parameters.length) = some 1 := by decide +kernel
theorem wc_X8_table : Cond.code yX8_table cX8_table 6 (some .int) ∈ mGW := mIn 1453 (by decide +kernel) rfl
theorem wi_X8_table : Cond.instanceMethod yX8_table ∈ mGW := mIn 1451 (by decide +kernel) rfl
theorem wl_X8_table : Cond.selects RX8 yX8_table yX8_table ∈ mGW := mIn 1452 (by decide +kernel) rfl
theorem wd_X8_table : yX8_table.cls ≠ "java/lang/invoke/MethodHandle" ∧ yX8_table.cls ≠ "java/lang/invoke/VarHandle" ∧ (parseMethodDescriptor yX8_table.desc).map (fun d => d.parameters.length) = some 5 := by decide +kernel
theorem wc_X8_total : Cond.code yX8_total cX8_total 3 (some .int) ∈ mGW := mIn 1457 (by decide +kernel) rfl
theorem wi_X8_total : Cond.instanceMethod yX8_total ∈ mGW := mIn 1455 (by decide +kernel) rfl
theorem wl_X8_total : Cond.selects RX8 yX8_total yX8_total ∈ mGW := mIn 1456 (by decide +kernel) rfl
theorem wd_X8_total : yX8_total.cls ≠ "java/lang/invoke/MethodHandle" ∧ yX8_total.cls ≠ "java/lang/invoke/VarHandle" ∧ (parseMethodDescriptor yX8_total.desc).map (fun d => d.parameters.length) = some 2 := by decide +kernel
theorem wc_X8_byLot : Cond.code yX8_byLot cX8_byLot 7 (some .int) ∈ mGW := mIn 1465 (by decide +kernel) rfl
theorem wi_X8_byLot : Cond.instanceMethod yX8_byLot ∈ mGW := mIn 1464 (by decide +kernel) rfl
theorem wl_X8_byLot : Cond.selects RX8 yX8_byLot yX8_byLot ∈ mGW := mInS 55 (by decide +kernel) rfl
theorem wd_X8_byLot : yX8_byLot.cls ≠ "java/lang/invoke/MethodHandle" ∧ yX8_byLot.cls ≠ "java/lang/invoke/VarHandle" ∧ (parseMethodDescriptor yX8_byLot.desc).map (fun d => d.parameters.length) = some 1 := by decide +kernel
theorem wc_X8_drawn : Cond.code yX8_drawn cX8_drawn 2 (some .int) ∈ mGW := mIn 1461 (by decide +kernel) rfl
theorem wi_X8_drawn : Cond.instanceMethod yX8_drawn ∈ mGW := mIn 1459 (by decide +kernel) rfl
theorem wl_X8_drawn : Cond.selects RX8 yX8_drawn yX8_drawn ∈ mGW := mIn 1460 (by decide +kernel) rfl
theorem wd_X8_drawn : yX8_drawn.cls ≠ "java/lang/invoke/MethodHandle" ∧ yX8_drawn.cls ≠ "java/lang/invoke/VarHandle" ∧ (parseMethodDescriptor yX8_drawn.desc).map (fun d => d.parameters.length) = some 1 := by decide +kernel
theorem wc_X8_common : Cond.code yX8_common cX8_common 2 (some .int) ∈ mGW := mIn 1473 (by decide +kernel) rfl
theorem wt_X8_common : Cond.static yX8_common ∈ mGW := mIn 1472 (by decide +kernel) rfl
theorem wd_X8_common : yX8_common.cls ≠ "java/lang/invoke/MethodHandle" ∧ yX8_common.cls ≠ "java/lang/invoke/VarHandle" ∧ (parseMethodDescriptor yX8_common.desc).map (fun d => d.parameters.length) = some 2 := by decide +kernel
theorem wc_X8_chance : Cond.code yX8_chance cX8_chance 6 (some .int) ∈ mGW := mIn 1470 (by decide +kernel) rfl
theorem wi_X8_chance : Cond.instanceMethod yX8_chance ∈ mGW := mIn 1468 (by decide +kernel) rfl
theorem wl_X8_chance : Cond.selects RX8 yX8_chance yX8_chance ∈ mGW := mIn 1469 (by decide +kernel) rfl
theorem wd_X8_chance : yX8_chance.cls ≠ "java/lang/invoke/MethodHandle" ∧ yX8_chance.cls ≠ "java/lang/invoke/VarHandle" ∧ (parseMethodDescriptor yX8_chance.desc).map (fun d => d.parameters.length) = some 3 := by decide +kernel
theorem wc_X8_replay : Cond.code yX8_replay cX8_replay 4 (some .int) ∈ mGW := mIn 1477 (by decide +kernel) rfl
theorem wi_X8_replay : Cond.instanceMethod yX8_replay ∈ mGW := mIn 1475 (by decide +kernel) rfl
theorem wl_X8_replay : Cond.selects RX8 yX8_replay yX8_replay ∈ mGW := mIn 1476 (by decide +kernel) rfl
theorem wd_X8_replay : yX8_replay.cls ≠ "java/lang/invoke/MethodHandle" ∧ yX8_replay.cls ≠ "java/lang/invoke/VarHandle" ∧ (parseMethodDescriptor yX8_replay.desc).map (fun d => d.parameters.length) = some 2 := by decide +kernel
theorem wc_X8_isSo : Cond.code yX8_isSo cX8_isSo 5 (some .boolean) ∈ mGW := mIn 1488 (by decide +kernel) rfl
theorem wi_X8_isSo : Cond.instanceMethod yX8_isSo ∈ mGW := mIn 1487 (by decide +kernel) rfl
theorem wl_X8_isSo : Cond.selects RX8 yX8_isSo yX8_isSo ∈ mGW := mInS 56 (by decide +kernel) rfl
theorem wd_X8_isSo : yX8_isSo.cls ≠ "java/lang/invoke/MethodHandle" ∧ yX8_isSo.cls ≠ "java/lang/invoke/VarHandle" ∧ (parseMethodDescriptor yX8_isSo.desc).map (fun d => d.parameters.length) = some 3 := by decide +kernel
theorem wc_X8_tells : Cond.code yX8_tells cX8_tells 5 (some .int) ∈ mGW := mIn 1481 (by decide +kernel) rfl
theorem wi_X8_tells : Cond.instanceMethod yX8_tells ∈ mGW := mIn 1479 (by decide +kernel) rfl
theorem wl_X8_tells : Cond.selects RX8 yX8_tells yX8_tells ∈ mGW := mIn 1480 (by decide +kernel) rfl
theorem wd_X8_tells : yX8_tells.cls ≠ "java/lang/invoke/MethodHandle" ∧ yX8_tells.cls ≠ "java/lang/invoke/VarHandle" ∧ (parseMethodDescriptor yX8_tells.desc).map (fun d => d.parameters.length) = some 2 := by decide +kernel
theorem wc_X8_film : Cond.code yX8_film cX8_film 3 (some .int) ∈ mGW := mIn 1492 (by decide +kernel) rfl
theorem wi_X8_film : Cond.instanceMethod yX8_film ∈ mGW := mIn 1490 (by decide +kernel) rfl
theorem wl_X8_film : Cond.selects RX8 yX8_film yX8_film ∈ mGW := mIn 1491 (by decide +kernel) rfl
theorem wd_X8_film : yX8_film.cls ≠ "java/lang/invoke/MethodHandle" ∧ yX8_film.cls ≠ "java/lang/invoke/VarHandle" ∧ (parseMethodDescriptor yX8_film.desc).map (fun d => d.parameters.length) = some 1 := by decide +kernel
theorem wc_X8_logRow : Cond.code yX8_logRow cX8_logRow 2 (some (.array .int)) ∈ mGW := mIn 1500 (by decide +kernel) rfl
theorem wi_X8_logRow : Cond.instanceMethod yX8_logRow ∈ mGW := mIn 1499 (by decide +kernel) rfl
theorem wl_X8_logRow : Cond.selects RX8 yX8_logRow yX8_logRow ∈ mGW := mInS 57 (by decide +kernel) rfl
theorem wd_X8_logRow : yX8_logRow.cls ≠ "java/lang/invoke/MethodHandle" ∧ yX8_logRow.cls ≠ "java/lang/invoke/VarHandle" ∧ (parseMethodDescriptor yX8_logRow.desc).map (fun d => d.parameters.length) = some 1 := by decide +kernel
theorem wc_X8_image : Cond.code yX8_image cX8_image 2 (some .int) ∈ mGW := mIn 1496 (by decide +kernel) rfl
theorem wi_X8_image : Cond.instanceMethod yX8_image ∈ mGW := mIn 1494 (by decide +kernel) rfl
theorem wl_X8_image : Cond.selects RX8 yX8_image yX8_image ∈ mGW := mIn 1495 (by decide +kernel) rfl
theorem wd_X8_image : yX8_image.cls ≠ "java/lang/invoke/MethodHandle" ∧ yX8_image.cls ≠ "java/lang/invoke/VarHandle" ∧ (parseMethodDescriptor yX8_image.desc).map (fun d => d.parameters.length) = some 0 := by decide +kernel
theorem wc_X8_back : Cond.code yX8_back cX8_back 2 (some .int) ∈ mGW := mIn 1505 (by decide +kernel) rfl
theorem wi_X8_back : Cond.instanceMethod yX8_back ∈ mGW := mIn 1503 (by decide +kernel) rfl
theorem wl_X8_back : Cond.selects RX8 yX8_back yX8_back ∈ mGW := mIn 1504 (by decide +kernel) rfl
theorem wd_X8_back : yX8_back.cls ≠ "java/lang/invoke/MethodHandle" ∧ yX8_back.cls ≠ "java/lang/invoke/VarHandle" ∧ (parseMethodDescriptor yX8_back.desc).map (fun d => d.parameters.length) = some 0 := by decide +kernel
theorem wc_X8_isSheet : Cond.code yX8_isSheet cX8_isSheet 1 (some .boolean) ∈ mGW := mIn 1484 (by decide +kernel) rfl
theorem wt_X8_isSheet : Cond.static yX8_isSheet ∈ mGW := mIn 1483 (by decide +kernel) rfl
theorem wd_X8_isSheet : yX8_isSheet.cls ≠ "java/lang/invoke/MethodHandle" ∧ yX8_isSheet.cls ≠ "java/lang/invoke/VarHandle" ∧ (parseMethodDescriptor yX8_isSheet.desc).map (fun d => d.parameters.length) = some 1 := by decide +kernel
theorem wc_X8_sheet : Cond.code yX8_sheet cX8_sheet 5 (some .int) ∈ mGW := mIn 1509 (by decide +kernel) rfl
theorem wi_X8_sheet : Cond.instanceMethod yX8_sheet ∈ mGW := mIn 1507 (by decide +kernel) rfl
theorem wl_X8_sheet : Cond.selects RX8 yX8_sheet yX8_sheet ∈ mGW := mIn 1508 (by decide +kernel) rfl
theorem wd_X8_sheet : yX8_sheet.cls ≠ "java/lang/invoke/MethodHandle" ∧ yX8_sheet.cls ≠ "java/lang/invoke/VarHandle" ∧ (parseMethodDescriptor yX8_sheet.desc).map (fun d => d.parameters.length) = some 3 := by decide +kernel
theorem wc_X8_cell : Cond.code yX8_cell cX8_cell 4 (some .int) ∈ mGW := mIn 1513 (by decide +kernel) rfl
theorem wi_X8_cell : Cond.instanceMethod yX8_cell ∈ mGW := mIn 1511 (by decide +kernel) rfl
theorem wl_X8_cell : Cond.selects RX8 yX8_cell yX8_cell ∈ mGW := mIn 1512 (by decide +kernel) rfl
theorem wd_X8_cell : yX8_cell.cls ≠ "java/lang/invoke/MethodHandle" ∧ yX8_cell.cls ≠ "java/lang/invoke/VarHandle" ∧ (parseMethodDescriptor yX8_cell.desc).map (fun d => d.parameters.length) = some 3 := by decide +kernel
theorem wc_X8_copy : Cond.code yX8_copy cX8_copy 6 (some .int) ∈ mGW := mIn 1517 (by decide +kernel) rfl
theorem wi_X8_copy : Cond.instanceMethod yX8_copy ∈ mGW := mIn 1515 (by decide +kernel) rfl
theorem wl_X8_copy : Cond.selects RX8 yX8_copy yX8_copy ∈ mGW := mIn 1516 (by decide +kernel) rfl
theorem wd_X8_copy : yX8_copy.cls ≠ "java/lang/invoke/MethodHandle" ∧ yX8_copy.cls ≠ "java/lang/invoke/VarHandle" ∧ (parseMethodDescriptor yX8_copy.desc).map (fun d => d.parameters.length) = some 5 := by decide +kernel
theorem wc_J5_init_d00df : Cond.code yJ5_init_d00df cJ5_init_d00df 2 (none) ∈ mGW := mIn 285 (by decide +kernel) rfl
theorem wi_J5_init_d00df : Cond.instanceMethod yJ5_init_d00df ∈ mGW := mIn 284 (by decide +kernel) rfl
theorem wd_J5_init_d00df : yJ5_init_d00df.cls ≠ "java/lang/invoke/MethodHandle" ∧ yJ5_init_d00df.cls ≠ "java/lang/invoke/VarHandle" ∧ (parseMethodDescriptor yJ5_init_d00df.desc).map (fun d => d.parameters.length) = some 1 := by decide +kernel
theorem wc_J5_length_8abf5 : Cond.code yJ5_length_8abf5 cJ5_length_8abf5 1 (some .int) ∈ mGW := mIn 846 (by decide +kernel) rfl
theorem wi_J5_length_8abf5 : Cond.instanceMethod yJ5_length_8abf5 ∈ mGW := mIn 845 (by decide +kernel) rfl
theorem wd_J5_length_8abf5 : yJ5_length_8abf5.cls ≠ "java/lang/invoke/MethodHandle" ∧ yJ5_length_8abf5.cls ≠ "java/lang/invoke/VarHandle" ∧ (parseMethodDescriptor yJ5_length_8abf5.desc).map (fun d => d.parameters.length) = some 0 := by decide +kernel
theorem wc_J5_ensureCapacityInternal_d00df : Cond.code yJ5_ensureCapacityInternal_d00df cJ5_ensureCapacityInternal_d00df 3 (none) ∈ mGW := mIn 695 (by decide +kernel) rfl
theorem wi_J5_ensureCapacityInternal_d00df : Cond.instanceMethod yJ5_ensureCapacityInternal_d00df ∈ mGW := mIn 694 (by decide +kernel) rfl
theorem wd_J5_ensureCapacityInternal_d00df : yJ5_ensureCapacityInternal_d00df.cls ≠ "java/lang/invoke/MethodHandle" ∧ yJ5_ensureCapacityInternal_d00df.cls ≠ "java/lang/invoke/VarHandle" ∧ (parseMethodDescriptor yJ5_ensureCapacityInternal_d00df.desc).map (fun d => d.parameters.length) = some 1 := by decide +kernel
theorem wc_J5_newCapacity_0f7a4 : Cond.code yJ5_newCapacity_0f7a4 cJ5_newCapacity_0f7a4 6 (some .int) ∈ mGW := mIn 699 (by decide +kernel) rfl
theorem wi_J5_newCapacity_0f7a4 : Cond.instanceMethod yJ5_newCapacity_0f7a4 ∈ mGW := mIn 698 (by decide +kernel) rfl
theorem wd_J5_newCapacity_0f7a4 : yJ5_newCapacity_0f7a4.cls ≠ "java/lang/invoke/MethodHandle" ∧ yJ5_newCapacity_0f7a4.cls ≠ "java/lang/invoke/VarHandle" ∧ (parseMethodDescriptor yJ5_newCapacity_0f7a4.desc).map (fun d => d.parameters.length) = some 1 := by decide +kernel
theorem wc_J5_inflate_da8c8 : Cond.code yJ5_inflate_da8c8 cJ5_inflate_da8c8 2 (none) ∈ mGW := mIn 779 (by decide +kernel) rfl
theorem wi_J5_inflate_da8c8 : Cond.instanceMethod yJ5_inflate_da8c8 ∈ mGW := mIn 778 (by decide +kernel) rfl
theorem wd_J5_inflate_da8c8 : yJ5_inflate_da8c8.cls ≠ "java/lang/invoke/MethodHandle" ∧ yJ5_inflate_da8c8.cls ≠ "java/lang/invoke/VarHandle" ∧ (parseMethodDescriptor yJ5_inflate_da8c8.desc).map (fun d => d.parameters.length) = some 0 := by decide +kernel
theorem wc_J5_setLength_d00df : Cond.code yJ5_setLength_d00df cJ5_setLength_d00df 2 (none) ∈ mGW := mIn 691 (by decide +kernel) rfl
theorem wi_J5_setLength_d00df : Cond.instanceMethod yJ5_setLength_d00df ∈ mGW := mIn 690 (by decide +kernel) rfl
theorem wd_J5_setLength_d00df : yJ5_setLength_d00df.cls ≠ "java/lang/invoke/MethodHandle" ∧ yJ5_setLength_d00df.cls ≠ "java/lang/invoke/VarHandle" ∧ (parseMethodDescriptor yJ5_setLength_d00df.desc).map (fun d => d.parameters.length) = some 1 := by decide +kernel
theorem wc_J5_charAt_5068e : Cond.code yJ5_charAt_5068e cJ5_charAt_5068e 5 (some .char) ∈ mGW := mIn 853 (by decide +kernel) rfl
theorem wi_J5_charAt_5068e : Cond.instanceMethod yJ5_charAt_5068e ∈ mGW := mIn 852 (by decide +kernel) rfl
theorem wd_J5_charAt_5068e : yJ5_charAt_5068e.cls ≠ "java/lang/invoke/MethodHandle" ∧ yJ5_charAt_5068e.cls ≠ "java/lang/invoke/VarHandle" ∧ (parseMethodDescriptor yJ5_charAt_5068e.desc).map (fun d => d.parameters.length) = some 1 := by decide +kernel
theorem wc_J5_append_cf1ce : Cond.code yJ5_append_cf1ce cJ5_append_cf1ce 3 (some (.object "java/lang/AbstractStringBuilder")) ∈ mGW := mIn 746 (by decide +kernel) rfl
theorem wi_J5_append_cf1ce : Cond.instanceMethod yJ5_append_cf1ce ∈ mGW := mIn 745 (by decide +kernel) rfl
theorem wd_J5_append_cf1ce : yJ5_append_cf1ce.cls ≠ "java/lang/invoke/MethodHandle" ∧ yJ5_append_cf1ce.cls ≠ "java/lang/invoke/VarHandle" ∧ (parseMethodDescriptor yJ5_append_cf1ce.desc).map (fun d => d.parameters.length) = some 1 := by decide +kernel
theorem wc_J5_appendNull_278bc : Cond.code yJ5_appendNull_278bc cJ5_appendNull_278bc 3 (some (.object "java/lang/AbstractStringBuilder")) ∈ mGW := mIn 750 (by decide +kernel) rfl
theorem wi_J5_appendNull_278bc : Cond.instanceMethod yJ5_appendNull_278bc ∈ mGW := mIn 749 (by decide +kernel) rfl
theorem wd_J5_appendNull_278bc : yJ5_appendNull_278bc.cls ≠ "java/lang/invoke/MethodHandle" ∧ yJ5_appendNull_278bc.cls ≠ "java/lang/invoke/VarHandle" ∧ (parseMethodDescriptor yJ5_appendNull_278bc.desc).map (fun d => d.parameters.length) = some 0 := by decide +kernel
theorem wc_J5_append_3fe6f : Cond.code yJ5_append_3fe6f cJ5_append_3fe6f 2 (some (.object "java/lang/AbstractStringBuilder")) ∈ mGW := mIn 807 (by decide +kernel) rfl
theorem wi_J5_append_3fe6f : Cond.instanceMethod yJ5_append_3fe6f ∈ mGW := mIn 806 (by decide +kernel) rfl
theorem wd_J5_append_3fe6f : yJ5_append_3fe6f.cls ≠ "java/lang/invoke/MethodHandle" ∧ yJ5_append_3fe6f.cls ≠ "java/lang/invoke/VarHandle" ∧ (parseMethodDescriptor yJ5_append_3fe6f.desc).map (fun d => d.parameters.length) = some 1 := by decide +kernel
theorem wc_J5_append_c97b9 : Cond.code yJ5_append_c97b9 cJ5_append_c97b9 4 (some (.object "java/lang/AbstractStringBuilder")) ∈ mGW := mIn 821 (by decide +kernel) rfl
theorem wi_J5_append_c97b9 : Cond.instanceMethod yJ5_append_c97b9 ∈ mGW := mIn 820 (by decide +kernel) rfl
theorem wd_J5_append_c97b9 : yJ5_append_c97b9.cls ≠ "java/lang/invoke/MethodHandle" ∧ yJ5_append_c97b9.cls ≠ "java/lang/invoke/VarHandle" ∧ (parseMethodDescriptor yJ5_append_c97b9.desc).map (fun d => d.parameters.length) = some 1 := by decide +kernel
theorem wc_J5_getValue_6d5f1 : Cond.code yJ5_getValue_6d5f1 cJ5_getValue_6d5f1 1 (some (.array .byte)) ∈ mGW := mIn 1385 (by decide +kernel) rfl
theorem wi_J5_getValue_6d5f1 : Cond.instanceMethod yJ5_getValue_6d5f1 ∈ mGW := mIn 1382 (by decide +kernel) rfl
theorem wd_J5_getValue_6d5f1 : yJ5_getValue_6d5f1.cls ≠ "java/lang/invoke/MethodHandle" ∧ yJ5_getValue_6d5f1.cls ≠ "java/lang/invoke/VarHandle" ∧ (parseMethodDescriptor yJ5_getValue_6d5f1.desc).map (fun d => d.parameters.length) = some 0 := by decide +kernel
theorem wc_J5_isLatin1_aae02 : Cond.code yJ5_isLatin1_aae02 cJ5_isLatin1_aae02 1 (some .boolean) ∈ mGW := mIn 725 (by decide +kernel) rfl
theorem wi_J5_isLatin1_aae02 : Cond.instanceMethod yJ5_isLatin1_aae02 ∈ mGW := mIn 722 (by decide +kernel) rfl
theorem wd_J5_isLatin1_aae02 : yJ5_isLatin1_aae02.cls ≠ "java/lang/invoke/MethodHandle" ∧ yJ5_isLatin1_aae02.cls ≠ "java/lang/invoke/VarHandle" ∧ (parseMethodDescriptor yJ5_isLatin1_aae02.desc).map (fun d => d.parameters.length) = some 0 := by decide +kernel
theorem wc_J5_inflateIfNeededFor_a7421 : Cond.code yJ5_inflateIfNeededFor_a7421 cJ5_inflateIfNeededFor_a7421 2 (none) ∈ mGW := mIn 774 (by decide +kernel) rfl
theorem wi_J5_inflateIfNeededFor_a7421 : Cond.instanceMethod yJ5_inflateIfNeededFor_a7421 ∈ mGW := mIn 773 (by decide +kernel) rfl
theorem wd_J5_inflateIfNeededFor_a7421 : yJ5_inflateIfNeededFor_a7421.cls ≠ "java/lang/invoke/MethodHandle" ∧ yJ5_inflateIfNeededFor_a7421.cls ≠ "java/lang/invoke/VarHandle" ∧ (parseMethodDescriptor yJ5_inflateIfNeededFor_a7421.desc).map (fun d => d.parameters.length) = some 1 := by decide +kernel
theorem wc_J5_putStringAt_47b60 : Cond.code yJ5_putStringAt_47b60 cJ5_putStringAt_47b60 3 (none) ∈ mGW := mIn 770 (by decide +kernel) rfl
theorem wi_J5_putStringAt_47b60 : Cond.instanceMethod yJ5_putStringAt_47b60 ∈ mGW := mIn 769 (by decide +kernel) rfl
theorem wd_J5_putStringAt_47b60 : yJ5_putStringAt_47b60.cls ≠ "java/lang/invoke/MethodHandle" ∧ yJ5_putStringAt_47b60.cls ≠ "java/lang/invoke/VarHandle" ∧ (parseMethodDescriptor yJ5_putStringAt_47b60.desc).map (fun d => d.parameters.length) = some 2 := by decide +kernel
theorem wc_J6_getChars_ba4f3 : Cond.code yJ6_getChars_ba4f3 cJ6_getChars_ba4f3 7 (some .int) ∈ mGW := mIn 827 (by decide +kernel) rfl
theorem wt_J6_getChars_ba4f3 : Cond.static yJ6_getChars_ba4f3 ∈ mGW := mIn 826 (by decide +kernel) rfl
theorem wd_J6_getChars_ba4f3 : yJ6_getChars_ba4f3.cls ≠ "java/lang/invoke/MethodHandle" ∧ yJ6_getChars_ba4f3.cls ≠ "java/lang/invoke/VarHandle" ∧ (parseMethodDescriptor yJ6_getChars_ba4f3.desc).map (fun d => d.parameters.length) = some 3 := by decide +kernel
theorem wc_J6_stringSize_0f7a4 : Cond.code yJ6_stringSize_0f7a4 cJ6_stringSize_0f7a4 4 (some .int) ∈ mGW := mIn 824 (by decide +kernel) rfl
theorem wt_J6_stringSize_0f7a4 : Cond.static yJ6_stringSize_0f7a4 ∈ mGW := mIn 823 (by decide +kernel) rfl
theorem wd_J6_stringSize_0f7a4 : yJ6_stringSize_0f7a4.cls ≠ "java/lang/invoke/MethodHandle" ∧ yJ6_stringSize_0f7a4.cls ≠ "java/lang/invoke/VarHandle" ∧ (parseMethodDescriptor yJ6_stringSize_0f7a4.desc).map (fun d => d.parameters.length) = some 1 := by decide +kernel
theorem wc_J6_bitCount_0f7a4 : Cond.code yJ6_bitCount_0f7a4 cJ6_bitCount_0f7a4 1 (some .int) ∈ mGW := mIn 559 (by decide +kernel) rfl
theorem wt_J6_bitCount_0f7a4 : Cond.static yJ6_bitCount_0f7a4 ∈ mGW := mIn 558 (by decide +kernel) rfl
theorem wd_J6_bitCount_0f7a4 : yJ6_bitCount_0f7a4.cls ≠ "java/lang/invoke/MethodHandle" ∧ yJ6_bitCount_0f7a4.cls ≠ "java/lang/invoke/VarHandle" ∧ (parseMethodDescriptor yJ6_bitCount_0f7a4.desc).map (fun d => d.parameters.length) = some 1 := by decide +kernel
theorem wc_J9_max_7cf53 : Cond.code yJ9_max_7cf53 cJ9_max_7cf53 2 (some .int) ∈ mGW := mIn 530 (by decide +kernel) rfl
theorem wt_J9_max_7cf53 : Cond.static yJ9_max_7cf53 ∈ mGW := mIn 529 (by decide +kernel) rfl
theorem wd_J9_max_7cf53 : yJ9_max_7cf53.cls ≠ "java/lang/invoke/MethodHandle" ∧ yJ9_max_7cf53.cls ≠ "java/lang/invoke/VarHandle" ∧ (parseMethodDescriptor yJ9_max_7cf53.desc).map (fun d => d.parameters.length) = some 2 := by decide +kernel
theorem wc_J9_min_7cf53 : Cond.code yJ9_min_7cf53 cJ9_min_7cf53 2 (some .int) ∈ mGW := mIn 548 (by decide +kernel) rfl
theorem wt_J9_min_7cf53 : Cond.static yJ9_min_7cf53 ∈ mGW := mIn 547 (by decide +kernel) rfl
theorem wd_J9_min_7cf53 : yJ9_min_7cf53.cls ≠ "java/lang/invoke/MethodHandle" ∧ yJ9_min_7cf53.cls ≠ "java/lang/invoke/VarHandle" ∧ (parseMethodDescriptor yJ9_min_7cf53.desc).map (fun d => d.parameters.length) = some 2 := by decide +kernel
theorem wc_J0_init_81219 : Cond.code yJ0_init_81219 cJ0_init_81219 2 (none) ∈ mGW := mIn 1376 (by decide +kernel) rfl
theorem wi_J0_init_81219 : Cond.instanceMethod yJ0_init_81219 ∈ mGW := mIn 1375 (by decide +kernel) rfl
theorem wd_J0_init_81219 : yJ0_init_81219.cls ≠ "java/lang/invoke/MethodHandle" ∧ yJ0_init_81219.cls ≠ "java/lang/invoke/VarHandle" ∧ (parseMethodDescriptor yJ0_init_81219.desc).map (fun d => d.parameters.length) = some 1 := by decide +kernel
theorem wc_J0_length_8abf5 : Cond.code yJ0_length_8abf5 cJ0_length_8abf5 1 (some .int) ∈ mGW := mIn 415 (by decide +kernel) rfl
theorem wi_J0_length_8abf5 : Cond.instanceMethod yJ0_length_8abf5 ∈ mGW := mIn 413 (by decide +kernel) rfl
theorem wl_J0_length_8abf5 : Cond.selects RJ0 yJ0_length_8abf5 yJ0_length_8abf5 ∈ mGW := mIn 414 (by decide +kernel) rfl
theorem wd_J0_length_8abf5 : yJ0_length_8abf5.cls ≠ "java/lang/invoke/MethodHandle" ∧ yJ0_length_8abf5.cls ≠ "java/lang/invoke/VarHandle" ∧ (parseMethodDescriptor yJ0_length_8abf5.desc).map (fun d => d.parameters.length) = some 0 := by decide +kernel
theorem wc_J0_charAt_5068e : Cond.code yJ0_charAt_5068e cJ0_charAt_5068e 2 (some .char) ∈ mGW := mIn 424 (by decide +kernel) rfl
theorem wi_J0_charAt_5068e : Cond.instanceMethod yJ0_charAt_5068e ∈ mGW := mIn 422 (by decide +kernel) rfl
theorem wl_J0_charAt_5068e : Cond.selects RJ0 yJ0_charAt_5068e yJ0_charAt_5068e ∈ mGW := mIn 423 (by decide +kernel) rfl
theorem wd_J0_charAt_5068e : yJ0_charAt_5068e.cls ≠ "java/lang/invoke/MethodHandle" ∧ yJ0_charAt_5068e.cls ≠ "java/lang/invoke/VarHandle" ∧ (parseMethodDescriptor yJ0_charAt_5068e.desc).map (fun d => d.parameters.length) = some 1 := by decide +kernel
theorem wc_J0_getBytes_840e7 : Cond.code yJ0_getBytes_840e7 cJ0_getBytes_840e7 4 (none) ∈ mGW := mIn 798 (by decide +kernel) rfl
theorem wi_J0_getBytes_840e7 : Cond.instanceMethod yJ0_getBytes_840e7 ∈ mGW := mIn 796 (by decide +kernel) rfl
theorem wl_J0_getBytes_840e7 : Cond.selects RJ0 yJ0_getBytes_840e7 yJ0_getBytes_840e7 ∈ mGW := mIn 797 (by decide +kernel) rfl
theorem wd_J0_getBytes_840e7 : yJ0_getBytes_840e7.cls ≠ "java/lang/invoke/MethodHandle" ∧ yJ0_getBytes_840e7.cls ≠ "java/lang/invoke/VarHandle" ∧ (parseMethodDescriptor yJ0_getBytes_840e7.desc).map (fun d => d.parameters.length) = some 3 := by decide +kernel
theorem wc_J0_init_db425 : Cond.code yJ0_init_db425 cJ0_init_db425 5 (none) ∈ mGW := mIn 1379 (by decide +kernel) rfl
theorem wi_J0_init_db425 : Cond.instanceMethod yJ0_init_db425 ∈ mGW := mIn 1378 (by decide +kernel) rfl
theorem wd_J0_init_db425 : yJ0_init_db425.cls ≠ "java/lang/invoke/MethodHandle" ∧ yJ0_init_db425.cls ≠ "java/lang/invoke/VarHandle" ∧ (parseMethodDescriptor yJ0_init_db425.desc).map (fun d => d.parameters.length) = some 2 := by decide +kernel
theorem wc_J0_coder_7d493 : Cond.code yJ0_coder_7d493 cJ0_coder_7d493 1 (some .byte) ∈ mGW := mIn 419 (by decide +kernel) rfl
theorem wi_J0_coder_7d493 : Cond.instanceMethod yJ0_coder_7d493 ∈ mGW := mIn 417 (by decide +kernel) rfl
theorem wl_J0_coder_7d493 : Cond.selects RJ0 yJ0_coder_7d493 yJ0_coder_7d493 ∈ mGW := mIn 418 (by decide +kernel) rfl
theorem wd_J0_coder_7d493 : yJ0_coder_7d493.cls ≠ "java/lang/invoke/MethodHandle" ∧ yJ0_coder_7d493.cls ≠ "java/lang/invoke/VarHandle" ∧ (parseMethodDescriptor yJ0_coder_7d493.desc).map (fun d => d.parameters.length) = some 0 := by decide +kernel
theorem wc_J0_isLatin1_aae02 : Cond.code yJ0_isLatin1_aae02 cJ0_isLatin1_aae02 1 (some .boolean) ∈ mGW := mIn 428 (by decide +kernel) rfl
theorem wi_J0_isLatin1_aae02 : Cond.instanceMethod yJ0_isLatin1_aae02 ∈ mGW := mIn 426 (by decide +kernel) rfl
theorem wl_J0_isLatin1_aae02 : Cond.selects RJ0 yJ0_isLatin1_aae02 yJ0_isLatin1_aae02 ∈ mGW := mIn 427 (by decide +kernel) rfl
theorem wd_J0_isLatin1_aae02 : yJ0_isLatin1_aae02.cls ≠ "java/lang/invoke/MethodHandle" ∧ yJ0_isLatin1_aae02.cls ≠ "java/lang/invoke/VarHandle" ∧ (parseMethodDescriptor yJ0_isLatin1_aae02.desc).map (fun d => d.parameters.length) = some 0 := by decide +kernel
theorem wc_J0_checkIndex_df160 : Cond.code yJ0_checkIndex_df160 cJ0_checkIndex_df160 2 (none) ∈ mGW := mIn 434 (by decide +kernel) rfl
theorem wt_J0_checkIndex_df160 : Cond.static yJ0_checkIndex_df160 ∈ mGW := mIn 433 (by decide +kernel) rfl
theorem wd_J0_checkIndex_df160 : yJ0_checkIndex_df160.cls ≠ "java/lang/invoke/MethodHandle" ∧ yJ0_checkIndex_df160.cls ≠ "java/lang/invoke/VarHandle" ∧ (parseMethodDescriptor yJ0_checkIndex_df160.desc).map (fun d => d.parameters.length) = some 2 := by decide +kernel
theorem wc_J0_checkBoundsOffCount_cabcc : Cond.code yJ0_checkBoundsOffCount_cabcc cJ0_checkBoundsOffCount_cabcc 3 (some .int) ∈ mGW := mIn 791 (by decide +kernel) rfl
theorem wt_J0_checkBoundsOffCount_cabcc : Cond.static yJ0_checkBoundsOffCount_cabcc ∈ mGW := mIn 790 (by decide +kernel) rfl
theorem wd_J0_checkBoundsOffCount_cabcc : yJ0_checkBoundsOffCount_cabcc.cls ≠ "java/lang/invoke/MethodHandle" ∧ yJ0_checkBoundsOffCount_cabcc.cls ≠ "java/lang/invoke/VarHandle" ∧ (parseMethodDescriptor yJ0_checkBoundsOffCount_cabcc.desc).map (fun d => d.parameters.length) = some 3 := by decide +kernel
theorem wc_J0_checkBoundsBeginEnd_23922 : Cond.code yJ0_checkBoundsBeginEnd_23922 cJ0_checkBoundsBeginEnd_23922 3 (none) ∈ mGW := mIn 759 (by decide +kernel) rfl
theorem wt_J0_checkBoundsBeginEnd_23922 : Cond.static yJ0_checkBoundsBeginEnd_23922 ∈ mGW := mIn 758 (by decide +kernel) rfl
theorem wd_J0_checkBoundsBeginEnd_23922 : yJ0_checkBoundsBeginEnd_23922.cls ≠ "java/lang/invoke/MethodHandle" ∧ yJ0_checkBoundsBeginEnd_23922.cls ≠ "java/lang/invoke/VarHandle" ∧ (parseMethodDescriptor yJ0_checkBoundsBeginEnd_23922.desc).map (fun d => d.parameters.length) = some 3 := by decide +kernel
theorem wc_J4_init_da8c8 : Cond.code yJ4_init_da8c8 cJ4_init_da8c8 1 (none) ∈ mGW := mIn 282 (by decide +kernel) rfl
theorem wi_J4_init_da8c8 : Cond.instanceMethod yJ4_init_da8c8 ∈ mGW := mIn 281 (by decide +kernel) rfl
theorem wd_J4_init_da8c8 : yJ4_init_da8c8.cls ≠ "java/lang/invoke/MethodHandle" ∧ yJ4_init_da8c8.cls ≠ "java/lang/invoke/VarHandle" ∧ (parseMethodDescriptor yJ4_init_da8c8.desc).map (fun d => d.parameters.length) = some 0 := by decide +kernel
theorem wc_J4_append_15ec4 : Cond.code yJ4_append_15ec4 cJ4_append_15ec4 2 (some (.object "java/lang/StringBuilder")) ∈ mGW := mIn 743 (by decide +kernel) rfl
theorem wi_J4_append_15ec4 : Cond.instanceMethod yJ4_append_15ec4 ∈ mGW := mIn 741 (by decide +kernel) rfl
theorem wl_J4_append_15ec4 : Cond.selects RJ4 yJ4_append_15ec4 yJ4_append_15ec4 ∈ mGW := mIn 742 (by decide +kernel) rfl
theorem wd_J4_append_15ec4 : yJ4_append_15ec4.cls ≠ "java/lang/invoke/MethodHandle" ∧ yJ4_append_15ec4.cls ≠ "java/lang/invoke/VarHandle" ∧ (parseMethodDescriptor yJ4_append_15ec4.desc).map (fun d => d.parameters.length) = some 1 := by decide +kernel
theorem wc_J4_append_cf468 : Cond.code yJ4_append_cf468 cJ4_append_cf468 2 (some (.object "java/lang/StringBuilder")) ∈ mGW := mIn 804 (by decide +kernel) rfl
theorem wi_J4_append_cf468 : Cond.instanceMethod yJ4_append_cf468 ∈ mGW := mIn 802 (by decide +kernel) rfl
theorem wl_J4_append_cf468 : Cond.selects RJ4 yJ4_append_cf468 yJ4_append_cf468 ∈ mGW := mIn 803 (by decide +kernel) rfl
theorem wd_J4_append_cf468 : yJ4_append_cf468.cls ≠ "java/lang/invoke/MethodHandle" ∧ yJ4_append_cf468.cls ≠ "java/lang/invoke/VarHandle" ∧ (parseMethodDescriptor yJ4_append_cf468.desc).map (fun d => d.parameters.length) = some 1 := by decide +kernel
theorem wc_J4_append_bf812 : Cond.code yJ4_append_bf812 cJ4_append_bf812 2 (some (.object "java/lang/StringBuilder")) ∈ mGW := mIn 818 (by decide +kernel) rfl
theorem wi_J4_append_bf812 : Cond.instanceMethod yJ4_append_bf812 ∈ mGW := mIn 816 (by decide +kernel) rfl
theorem wl_J4_append_bf812 : Cond.selects RJ4 yJ4_append_bf812 yJ4_append_bf812 ∈ mGW := mIn 817 (by decide +kernel) rfl
theorem wd_J4_append_bf812 : yJ4_append_bf812.cls ≠ "java/lang/invoke/MethodHandle" ∧ yJ4_append_bf812.cls ≠ "java/lang/invoke/VarHandle" ∧ (parseMethodDescriptor yJ4_append_bf812.desc).map (fun d => d.parameters.length) = some 1 := by decide +kernel
theorem wc_J4_toString_0e30d : Cond.code yJ4_toString_0e30d cJ4_toString_0e30d 1 (some (.object "java/lang/String")) ∈ mGW := mIn 1371 (by decide +kernel) rfl
theorem wi_J4_toString_0e30d : Cond.instanceMethod yJ4_toString_0e30d ∈ mGW := mIn 1369 (by decide +kernel) rfl
theorem wl_J4_toString_0e30d : Cond.selects RJ4 yJ4_toString_0e30d yJ4_toString_0e30d ∈ mGW := mIn 1370 (by decide +kernel) rfl
theorem wd_J4_toString_0e30d : yJ4_toString_0e30d.cls ≠ "java/lang/invoke/MethodHandle" ∧ yJ4_toString_0e30d.cls ≠ "java/lang/invoke/VarHandle" ∧ (parseMethodDescriptor yJ4_toString_0e30d.desc).map (fun d => d.parameters.length) = some 0 := by decide +kernel
theorem wc_J4_charAt_5068e : Cond.code yJ4_charAt_5068e cJ4_charAt_5068e 2 (some .char) ∈ mGW := mIn 850 (by decide +kernel) rfl
theorem wi_J4_charAt_5068e : Cond.instanceMethod yJ4_charAt_5068e ∈ mGW := mIn 848 (by decide +kernel) rfl
theorem wl_J4_charAt_5068e : Cond.selects RJ4 yJ4_charAt_5068e yJ4_charAt_5068e ∈ mGW := mIn 849 (by decide +kernel) rfl
theorem wd_J4_charAt_5068e : yJ4_charAt_5068e.cls ≠ "java/lang/invoke/MethodHandle" ∧ yJ4_charAt_5068e.cls ≠ "java/lang/invoke/VarHandle" ∧ (parseMethodDescriptor yJ4_charAt_5068e.desc).map (fun d => d.parameters.length) = some 1 := by decide +kernel
theorem wc_J4_setLength_d00df : Cond.code yJ4_setLength_d00df cJ4_setLength_d00df 2 (none) ∈ mGW := mIn 688 (by decide +kernel) rfl
theorem wi_J4_setLength_d00df : Cond.instanceMethod yJ4_setLength_d00df ∈ mGW := mIn 686 (by decide +kernel) rfl
theorem wl_J4_setLength_d00df : Cond.selects RJ4 yJ4_setLength_d00df yJ4_setLength_d00df ∈ mGW := mIn 687 (by decide +kernel) rfl
theorem wd_J4_setLength_d00df : yJ4_setLength_d00df.cls ≠ "java/lang/invoke/MethodHandle" ∧ yJ4_setLength_d00df.cls ≠ "java/lang/invoke/VarHandle" ∧ (parseMethodDescriptor yJ4_setLength_d00df.desc).map (fun d => d.parameters.length) = some 1 := by decide +kernel
theorem wc_J4_length_8abf5 : Cond.code yJ4_length_8abf5 cJ4_length_8abf5 1 (some .int) ∈ mGW := mIn 843 (by decide +kernel) rfl
theorem wi_J4_length_8abf5 : Cond.instanceMethod yJ4_length_8abf5 ∈ mGW := mIn 841 (by decide +kernel) rfl
theorem wl_J4_length_8abf5 : Cond.selects RJ4 yJ4_length_8abf5 yJ4_length_8abf5 ∈ mGW := mIn 842 (by decide +kernel) rfl
theorem wd_J4_length_8abf5 : yJ4_length_8abf5.cls ≠ "java/lang/invoke/MethodHandle" ∧ yJ4_length_8abf5.cls ≠ "java/lang/invoke/VarHandle" ∧ (parseMethodDescriptor yJ4_length_8abf5.desc).map (fun d => d.parameters.length) = some 0 := by decide +kernel
theorem wc_J1_charAt_3b067 : Cond.code yJ1_charAt_3b067 cJ1_charAt_3b067 2 (some .char) ∈ mGW := mIn 431 (by decide +kernel) rfl
theorem wt_J1_charAt_3b067 : Cond.static yJ1_charAt_3b067 ∈ mGW := mIn 430 (by decide +kernel) rfl
theorem wd_J1_charAt_3b067 : yJ1_charAt_3b067.cls ≠ "java/lang/invoke/MethodHandle" ∧ yJ1_charAt_3b067.cls ≠ "java/lang/invoke/VarHandle" ∧ (parseMethodDescriptor yJ1_charAt_3b067.desc).map (fun d => d.parameters.length) = some 2 := by decide +kernel
theorem wc_J1_canEncode_fc78d : Cond.code yJ1_canEncode_fc78d cJ1_canEncode_fc78d 1 (some .boolean) ∈ mGW := mIn 810 (by decide +kernel) rfl
theorem wt_J1_canEncode_fc78d : Cond.static yJ1_canEncode_fc78d ∈ mGW := mIn 809 (by decide +kernel) rfl
theorem wd_J1_canEncode_fc78d : yJ1_canEncode_fc78d.cls ≠ "java/lang/invoke/MethodHandle" ∧ yJ1_canEncode_fc78d.cls ≠ "java/lang/invoke/VarHandle" ∧ (parseMethodDescriptor yJ1_canEncode_fc78d.desc).map (fun d => d.parameters.length) = some 1 := by decide +kernel
theorem wc_J1_fillNull_b72d1 : Cond.code yJ1_fillNull_b72d1 cJ1_fillNull_b72d1 3 (none) ∈ mGW := mIn 728 (by decide +kernel) rfl
theorem wt_J1_fillNull_b72d1 : Cond.static yJ1_fillNull_b72d1 ∈ mGW := mIn 727 (by decide +kernel) rfl
theorem wd_J1_fillNull_b72d1 : yJ1_fillNull_b72d1.cls ≠ "java/lang/invoke/MethodHandle" ∧ yJ1_fillNull_b72d1.cls ≠ "java/lang/invoke/VarHandle" ∧ (parseMethodDescriptor yJ1_fillNull_b72d1.desc).map (fun d => d.parameters.length) = some 3 := by decide +kernel
theorem wc_J1_inflate_0e8fd : Cond.code yJ1_inflate_0e8fd cJ1_inflate_0e8fd 5 (none) ∈ mGW := mIn 782 (by decide +kernel) rfl
theorem wt_J1_inflate_0e8fd : Cond.static yJ1_inflate_0e8fd ∈ mGW := mIn 781 (by decide +kernel) rfl
theorem wd_J1_inflate_0e8fd : yJ1_inflate_0e8fd.cls ≠ "java/lang/invoke/MethodHandle" ∧ yJ1_inflate_0e8fd.cls ≠ "java/lang/invoke/VarHandle" ∧ (parseMethodDescriptor yJ1_inflate_0e8fd.desc).map (fun d => d.parameters.length) = some 5 := by decide +kernel
theorem wc_J2_newBytesFor_77867 : Cond.code yJ2_newBytesFor_77867 cJ2_newBytesFor_77867 1 (some (.array .byte)) ∈ mGW := mIn 291 (by decide +kernel) rfl
theorem wt_J2_newBytesFor_77867 : Cond.static yJ2_newBytesFor_77867 ∈ mGW := mIn 290 (by decide +kernel) rfl
theorem wd_J2_newBytesFor_77867 : yJ2_newBytesFor_77867.cls ≠ "java/lang/invoke/MethodHandle" ∧ yJ2_newBytesFor_77867.cls ≠ "java/lang/invoke/VarHandle" ∧ (parseMethodDescriptor yJ2_newBytesFor_77867.desc).map (fun d => d.parameters.length) = some 1 := by decide +kernel
theorem wc_J2_newBytesLength_0f7a4 : Cond.code yJ2_newBytesLength_0f7a4 cJ2_newBytesLength_0f7a4 1 (some .int) ∈ mGW := mIn 294 (by decide +kernel) rfl
theorem wt_J2_newBytesLength_0f7a4 : Cond.static yJ2_newBytesLength_0f7a4 ∈ mGW := mIn 293 (by decide +kernel) rfl
theorem wd_J2_newBytesLength_0f7a4 : yJ2_newBytesLength_0f7a4.cls ≠ "java/lang/invoke/MethodHandle" ∧ yJ2_newBytesLength_0f7a4.cls ≠ "java/lang/invoke/VarHandle" ∧ (parseMethodDescriptor yJ2_newBytesLength_0f7a4.desc).map (fun d => d.parameters.length) = some 1 := by decide +kernel
theorem wc_J2_putChar_b72d1 : Cond.code yJ2_putChar_b72d1 cJ2_putChar_b72d1 3 (none) ∈ mGW := mIn 765 (by decide +kernel) rfl
theorem wt_J2_putChar_b72d1 : Cond.static yJ2_putChar_b72d1 ∈ mGW := mIn 764 (by decide +kernel) rfl
theorem wd_J2_putChar_b72d1 : yJ2_putChar_b72d1.cls ≠ "java/lang/invoke/MethodHandle" ∧ yJ2_putChar_b72d1.cls ≠ "java/lang/invoke/VarHandle" ∧ (parseMethodDescriptor yJ2_putChar_b72d1.desc).map (fun d => d.parameters.length) = some 3 := by decide +kernel
theorem wc_J2_getChar_3b067 : Cond.code yJ2_getChar_3b067 cJ2_getChar_3b067 2 (some .char) ∈ mGW := mIn 452 (by decide +kernel) rfl
theorem wt_J2_getChar_3b067 : Cond.static yJ2_getChar_3b067 ∈ mGW := mIn 451 (by decide +kernel) rfl
theorem wd_J2_getChar_3b067 : yJ2_getChar_3b067.cls ≠ "java/lang/invoke/MethodHandle" ∧ yJ2_getChar_3b067.cls ≠ "java/lang/invoke/VarHandle" ∧ (parseMethodDescriptor yJ2_getChar_3b067.desc).map (fun d => d.parameters.length) = some 2 := by decide +kernel
theorem wc_J2_length_9d52b : Cond.code yJ2_length_9d52b cJ2_length_9d52b 1 (some .int) ∈ mGW := mIn 448 (by decide +kernel) rfl
theorem wt_J2_length_9d52b : Cond.static yJ2_length_9d52b ∈ mGW := mIn 447 (by decide +kernel) rfl
theorem wd_J2_length_9d52b : yJ2_length_9d52b.cls ≠ "java/lang/invoke/MethodHandle" ∧ yJ2_length_9d52b.cls ≠ "java/lang/invoke/VarHandle" ∧ (parseMethodDescriptor yJ2_length_9d52b.desc).map (fun d => d.parameters.length) = some 1 := by decide +kernel
theorem wc_J2_coderFromArrayLen_85cad : Cond.code yJ2_coderFromArrayLen_85cad cJ2_coderFromArrayLen_85cad 2 (some .byte) ∈ mGW := mIn 1406 (by decide +kernel) rfl
theorem wt_J2_coderFromArrayLen_85cad : Cond.static yJ2_coderFromArrayLen_85cad ∈ mGW := mIn 1405 (by decide +kernel) rfl
theorem wd_J2_coderFromArrayLen_85cad : yJ2_coderFromArrayLen_85cad.cls ≠ "java/lang/invoke/MethodHandle" ∧ yJ2_coderFromArrayLen_85cad.cls ≠ "java/lang/invoke/VarHandle" ∧ (parseMethodDescriptor yJ2_coderFromArrayLen_85cad.desc).map (fun d => d.parameters.length) = some 2 := by decide +kernel
theorem wc_J2_compress_39247 : Cond.code yJ2_compress_39247 cJ2_compress_39247 6 (some (.array .byte)) ∈ mGW := mIn 1399 (by decide +kernel) rfl
theorem wt_J2_compress_39247 : Cond.static yJ2_compress_39247 ∈ mGW := mIn 1398 (by decide +kernel) rfl
theorem wd_J2_compress_39247 : yJ2_compress_39247.cls ≠ "java/lang/invoke/MethodHandle" ∧ yJ2_compress_39247.cls ≠ "java/lang/invoke/VarHandle" ∧ (parseMethodDescriptor yJ2_compress_39247.desc).map (fun d => d.parameters.length) = some 3 := by decide +kernel
theorem wc_J2_compress_5af95 : Cond.code yJ2_compress_5af95 cJ2_compress_5af95 7 (some .int) ∈ mGW := mIn 1402 (by decide +kernel) rfl
theorem wt_J2_compress_5af95 : Cond.static yJ2_compress_5af95 ∈ mGW := mIn 1401 (by decide +kernel) rfl
theorem wd_J2_compress_5af95 : yJ2_compress_5af95.cls ≠ "java/lang/invoke/MethodHandle" ∧ yJ2_compress_5af95.cls ≠ "java/lang/invoke/VarHandle" ∧ (parseMethodDescriptor yJ2_compress_5af95.desc).map (fun d => d.parameters.length) = some 5 := by decide +kernel
theorem wc_J2_fillNull_b72d1 : Cond.code yJ2_fillNull_b72d1 cJ2_fillNull_b72d1 3 (none) ∈ mGW := mIn 737 (by decide +kernel) rfl
theorem wt_J2_fillNull_b72d1 : Cond.static yJ2_fillNull_b72d1 ∈ mGW := mIn 736 (by decide +kernel) rfl
theorem wd_J2_fillNull_b72d1 : yJ2_fillNull_b72d1.cls ≠ "java/lang/invoke/MethodHandle" ∧ yJ2_fillNull_b72d1.cls ≠ "java/lang/invoke/VarHandle" ∧ (parseMethodDescriptor yJ2_fillNull_b72d1.desc).map (fun d => d.parameters.length) = some 3 := by decide +kernel
theorem wc_J2_putCharSB_b72d1 : Cond.code yJ2_putCharSB_b72d1 cJ2_putCharSB_b72d1 3 (none) ∈ mGW := mIn 813 (by decide +kernel) rfl
theorem wt_J2_putCharSB_b72d1 : Cond.static yJ2_putCharSB_b72d1 ∈ mGW := mIn 812 (by decide +kernel) rfl
theorem wd_J2_putCharSB_b72d1 : yJ2_putCharSB_b72d1.cls ≠ "java/lang/invoke/MethodHandle" ∧ yJ2_putCharSB_b72d1.cls ≠ "java/lang/invoke/VarHandle" ∧ (parseMethodDescriptor yJ2_putCharSB_b72d1.desc).map (fun d => d.parameters.length) = some 3 := by decide +kernel
theorem wc_J2_getChars_46870 : Cond.code yJ2_getChars_46870 cJ2_getChars_46870 5 (some .int) ∈ mGW := mIn 834 (by decide +kernel) rfl
theorem wt_J2_getChars_46870 : Cond.static yJ2_getChars_46870 ∈ mGW := mIn 833 (by decide +kernel) rfl
theorem wd_J2_getChars_46870 : yJ2_getChars_46870.cls ≠ "java/lang/invoke/MethodHandle" ∧ yJ2_getChars_46870.cls ≠ "java/lang/invoke/VarHandle" ∧ (parseMethodDescriptor yJ2_getChars_46870.desc).map (fun d => d.parameters.length) = some 4 := by decide +kernel
theorem wc_J2_putCharsAt_cd4e5 : Cond.code yJ2_putCharsAt_cd4e5 cJ2_putCharsAt_cd4e5 7 (some .int) ∈ mGW := mIn 753 (by decide +kernel) rfl
theorem wt_J2_putCharsAt_cd4e5 : Cond.static yJ2_putCharsAt_cd4e5 ∈ mGW := mIn 752 (by decide +kernel) rfl
theorem wd_J2_putCharsAt_cd4e5 : yJ2_putCharsAt_cd4e5.cls ≠ "java/lang/invoke/MethodHandle" ∧ yJ2_putCharsAt_cd4e5.cls ≠ "java/lang/invoke/VarHandle" ∧ (parseMethodDescriptor yJ2_putCharsAt_cd4e5.desc).map (fun d => d.parameters.length) = some 6 := by decide +kernel
theorem wc_J2_charAt_3b067 : Cond.code yJ2_charAt_3b067 cJ2_charAt_3b067 2 (some .char) ∈ mGW := mIn 442 (by decide +kernel) rfl
theorem wt_J2_charAt_3b067 : Cond.static yJ2_charAt_3b067 ∈ mGW := mIn 441 (by decide +kernel) rfl
theorem wd_J2_charAt_3b067 : yJ2_charAt_3b067.cls ≠ "java/lang/invoke/MethodHandle" ∧ yJ2_charAt_3b067.cls ≠ "java/lang/invoke/VarHandle" ∧ (parseMethodDescriptor yJ2_charAt_3b067.desc).map (fun d => d.parameters.length) = some 2 := by decide +kernel
theorem wc_J2_inflate_0e8fd : Cond.code yJ2_inflate_0e8fd cJ2_inflate_0e8fd 6 (none) ∈ mGW := mIn 785 (by decide +kernel) rfl
theorem wt_J2_inflate_0e8fd : Cond.static yJ2_inflate_0e8fd ∈ mGW := mIn 784 (by decide +kernel) rfl
theorem wd_J2_inflate_0e8fd : yJ2_inflate_0e8fd.cls ≠ "java/lang/invoke/MethodHandle" ∧ yJ2_inflate_0e8fd.cls ≠ "java/lang/invoke/VarHandle" ∧ (parseMethodDescriptor yJ2_inflate_0e8fd.desc).map (fun d => d.parameters.length) = some 5 := by decide +kernel
theorem wc_J2_getChars_ba4f3 : Cond.code yJ2_getChars_ba4f3 cJ2_getChars_ba4f3 7 (some .int) ∈ mGW := mIn 837 (by decide +kernel) rfl
theorem wt_J2_getChars_ba4f3 : Cond.static yJ2_getChars_ba4f3 ∈ mGW := mIn 836 (by decide +kernel) rfl
theorem wd_J2_getChars_ba4f3 : yJ2_getChars_ba4f3.cls ≠ "java/lang/invoke/MethodHandle" ∧ yJ2_getChars_ba4f3.cls ≠ "java/lang/invoke/VarHandle" ∧ (parseMethodDescriptor yJ2_getChars_ba4f3.desc).map (fun d => d.parameters.length) = some 3 := by decide +kernel
theorem wc_J2_checkIndex_2214a : Cond.code yJ2_checkIndex_2214a cJ2_checkIndex_2214a 2 (none) ∈ mGW := mIn 445 (by decide +kernel) rfl
theorem wt_J2_checkIndex_2214a : Cond.static yJ2_checkIndex_2214a ∈ mGW := mIn 444 (by decide +kernel) rfl
theorem wd_J2_checkIndex_2214a : yJ2_checkIndex_2214a.cls ≠ "java/lang/invoke/MethodHandle" ∧ yJ2_checkIndex_2214a.cls ≠ "java/lang/invoke/VarHandle" ∧ (parseMethodDescriptor yJ2_checkIndex_2214a.desc).map (fun d => d.parameters.length) = some 2 := by decide +kernel
theorem wc_J2_checkBoundsBeginEnd_d044e : Cond.code yJ2_checkBoundsBeginEnd_d044e cJ2_checkBoundsBeginEnd_d044e 3 (none) ∈ mGW := mIn 756 (by decide +kernel) rfl
theorem wt_J2_checkBoundsBeginEnd_d044e : Cond.static yJ2_checkBoundsBeginEnd_d044e ∈ mGW := mIn 755 (by decide +kernel) rfl
theorem wd_J2_checkBoundsBeginEnd_d044e : yJ2_checkBoundsBeginEnd_d044e.cls ≠ "java/lang/invoke/MethodHandle" ∧ yJ2_checkBoundsBeginEnd_d044e.cls ≠ "java/lang/invoke/VarHandle" ∧ (parseMethodDescriptor yJ2_checkBoundsBeginEnd_d044e.desc).map (fun d => d.parameters.length) = some 3 := by decide +kernel
theorem wc_J2_checkBoundsOffCount_d044e : Cond.code yJ2_checkBoundsOffCount_d044e cJ2_checkBoundsOffCount_d044e 3 (none) ∈ mGW := mIn 788 (by decide +kernel) rfl
theorem wt_J2_checkBoundsOffCount_d044e : Cond.static yJ2_checkBoundsOffCount_d044e ∈ mGW := mIn 787 (by decide +kernel) rfl
theorem wd_J2_checkBoundsOffCount_d044e : yJ2_checkBoundsOffCount_d044e.cls ≠ "java/lang/invoke/MethodHandle" ∧ yJ2_checkBoundsOffCount_d044e.cls ≠ "java/lang/invoke/VarHandle" ∧ (parseMethodDescriptor yJ2_checkBoundsOffCount_d044e.desc).map (fun d => d.parameters.length) = some 3 := by decide +kernel
theorem wc_J7_rangeCheck_23922 : Cond.code yJ7_rangeCheck_23922 cJ7_rangeCheck_23922 3 (none) ∈ mGW := mIn 734 (by decide +kernel) rfl
theorem wt_J7_rangeCheck_23922 : Cond.static yJ7_rangeCheck_23922 ∈ mGW := mIn 733 (by decide +kernel) rfl
theorem wd_J7_rangeCheck_23922 : yJ7_rangeCheck_23922.cls ≠ "java/lang/invoke/MethodHandle" ∧ yJ7_rangeCheck_23922.cls ≠ "java/lang/invoke/VarHandle" ∧ (parseMethodDescriptor yJ7_rangeCheck_23922.desc).map (fun d => d.parameters.length) = some 3 := by decide +kernel
theorem wc_J7_fill_eb02e : Cond.code yJ7_fill_eb02e cJ7_fill_eb02e 5 (none) ∈ mGW := mIn 731 (by decide +kernel) rfl
theorem wt_J7_fill_eb02e : Cond.static yJ7_fill_eb02e ∈ mGW := mIn 730 (by decide +kernel) rfl
theorem wd_J7_fill_eb02e : yJ7_fill_eb02e.cls ≠ "java/lang/invoke/MethodHandle" ∧ yJ7_fill_eb02e.cls ≠ "java/lang/invoke/VarHandle" ∧ (parseMethodDescriptor yJ7_fill_eb02e.desc).map (fun d => d.parameters.length) = some 4 := by decide +kernel
theorem wc_J7_copyOf_9075b : Cond.code yJ7_copyOf_9075b cJ7_copyOf_9075b 3 (some (.array .byte)) ∈ mGW := mIn 711 (by decide +kernel) rfl
theorem wt_J7_copyOf_9075b : Cond.static yJ7_copyOf_9075b ∈ mGW := mIn 710 (by decide +kernel) rfl
theorem wd_J7_copyOf_9075b : yJ7_copyOf_9075b.cls ≠ "java/lang/invoke/MethodHandle" ∧ yJ7_copyOf_9075b.cls ≠ "java/lang/invoke/VarHandle" ∧ (parseMethodDescriptor yJ7_copyOf_9075b.desc).map (fun d => d.parameters.length) = some 2 := by decide +kernel
theorem wc_J7_checkLength_df160 : Cond.code yJ7_checkLength_df160 cJ7_checkLength_df160 2 (none) ∈ mGW := mIn 1396 (by decide +kernel) rfl
theorem wt_J7_checkLength_df160 : Cond.static yJ7_checkLength_df160 ∈ mGW := mIn 1395 (by decide +kernel) rfl
theorem wd_J7_checkLength_df160 : yJ7_checkLength_df160.cls ≠ "java/lang/invoke/MethodHandle" ∧ yJ7_checkLength_df160.cls ≠ "java/lang/invoke/VarHandle" ∧ (parseMethodDescriptor yJ7_checkLength_df160.desc).map (fun d => d.parameters.length) = some 2 := by decide +kernel
theorem wc_J7_copyOfRange_39247 : Cond.code yJ7_copyOfRange_39247 cJ7_copyOfRange_39247 3 (some (.array .byte)) ∈ mGW := mIn 1390 (by decide +kernel) rfl
theorem wt_J7_copyOfRange_39247 : Cond.static yJ7_copyOfRange_39247 ∈ mGW := mIn 1389 (by decide +kernel) rfl
theorem wd_J7_copyOfRange_39247 : yJ7_copyOfRange_39247.cls ≠ "java/lang/invoke/MethodHandle" ∧ yJ7_copyOfRange_39247.cls ≠ "java/lang/invoke/VarHandle" ∧ (parseMethodDescriptor yJ7_copyOfRange_39247.desc).map (fun d => d.parameters.length) = some 3 := by decide +kernel
theorem wc_J7_copyOfRangeByte_39247 : Cond.code yJ7_copyOfRangeByte_39247 cJ7_copyOfRangeByte_39247 5 (some (.array .byte)) ∈ mGW := mIn 1393 (by decide +kernel) rfl
theorem wt_J7_copyOfRangeByte_39247 : Cond.static yJ7_copyOfRangeByte_39247 ∈ mGW := mIn 1392 (by decide +kernel) rfl
theorem wd_J7_copyOfRangeByte_39247 : yJ7_copyOfRangeByte_39247.cls ≠ "java/lang/invoke/MethodHandle" ∧ yJ7_copyOfRangeByte_39247.cls ≠ "java/lang/invoke/VarHandle" ∧ (parseMethodDescriptor yJ7_copyOfRangeByte_39247.desc).map (fun d => d.parameters.length) = some 3 := by decide +kernel
theorem wc_J8_newLength_cabcc : Cond.code yJ8_newLength_cabcc cJ8_newLength_cabcc 4 (some .int) ∈ mGW := mIn 702 (by decide +kernel) rfl
theorem wt_J8_newLength_cabcc : Cond.static yJ8_newLength_cabcc ∈ mGW := mIn 701 (by decide +kernel) rfl
theorem wd_J8_newLength_cabcc : yJ8_newLength_cabcc.cls ≠ "java/lang/invoke/MethodHandle" ∧ yJ8_newLength_cabcc.cls ≠ "java/lang/invoke/VarHandle" ∧ (parseMethodDescriptor yJ8_newLength_cabcc.desc).map (fun d => d.parameters.length) = some 3 := by decide +kernel
theorem wc_J8_hugeLength_7cf53 : Cond.code yJ8_hugeLength_7cf53 cJ8_hugeLength_7cf53 3 (some .int) ∈ mGW := mIn 707 (by decide +kernel) rfl
theorem wt_J8_hugeLength_7cf53 : Cond.static yJ8_hugeLength_7cf53 ∈ mGW := mIn 706 (by decide +kernel) rfl
theorem wd_J8_hugeLength_7cf53 : yJ8_hugeLength_7cf53.cls ≠ "java/lang/invoke/MethodHandle" ∧ yJ8_hugeLength_7cf53.cls ≠ "java/lang/invoke/VarHandle" ∧ (parseMethodDescriptor yJ8_hugeLength_7cf53.desc).map (fun d => d.parameters.length) = some 2 := by decide +kernel
theorem wc_J3_checkIndex_8e157 : Cond.code yJ3_checkIndex_8e157 cJ3_checkIndex_8e157 3 (some .int) ∈ mGW := mIn 439 (by decide +kernel) rfl
theorem wt_J3_checkIndex_8e157 : Cond.static yJ3_checkIndex_8e157 ∈ mGW := mIn 438 (by decide +kernel) rfl
theorem wd_J3_checkIndex_8e157 : yJ3_checkIndex_8e157.cls ≠ "java/lang/invoke/MethodHandle" ∧ yJ3_checkIndex_8e157.cls ≠ "java/lang/invoke/VarHandle" ∧ (parseMethodDescriptor yJ3_checkIndex_8e157.desc).map (fun d => d.parameters.length) = some 3 := by decide +kernel
theorem wc_J3_checkFromToIndex_8c36e : Cond.code yJ3_checkFromToIndex_8c36e cJ3_checkFromToIndex_8c36e 4 (some .int) ∈ mGW := mIn 762 (by decide +kernel) rfl
theorem wt_J3_checkFromToIndex_8c36e : Cond.static yJ3_checkFromToIndex_8c36e ∈ mGW := mIn 761 (by decide +kernel) rfl
theorem wd_J3_checkFromToIndex_8c36e : yJ3_checkFromToIndex_8c36e.cls ≠ "java/lang/invoke/MethodHandle" ∧ yJ3_checkFromToIndex_8c36e.cls ≠ "java/lang/invoke/VarHandle" ∧ (parseMethodDescriptor yJ3_checkFromToIndex_8c36e.desc).map (fun d => d.parameters.length) = some 4 := by decide +kernel
theorem wc_J3_checkFromIndexSize_8c36e : Cond.code yJ3_checkFromIndexSize_8c36e cJ3_checkFromIndexSize_8c36e 4 (some .int) ∈ mGW := mIn 794 (by decide +kernel) rfl
theorem wt_J3_checkFromIndexSize_8c36e : Cond.static yJ3_checkFromIndexSize_8c36e ∈ mGW := mIn 793 (by decide +kernel) rfl
theorem wd_J3_checkFromIndexSize_8c36e : yJ3_checkFromIndexSize_8c36e.cls ≠ "java/lang/invoke/MethodHandle" ∧ yJ3_checkFromIndexSize_8c36e.cls ≠ "java/lang/invoke/VarHandle" ∧ (parseMethodDescriptor yJ3_checkFromIndexSize_8c36e.desc).map (fun d => d.parameters.length) = some 4 := by decide +kernel
theorem wm_RX0_28 : Cond.methodLinkNest RX0 28 yX7_set "TrickHouse" ∈ lw_tbl := mInN 595 (by decide +kernel)
theorem wm_RX0_32 : Cond.methodLinkNest RX0 32 yX7_take "TrickHouse" ∈ lw_tbl := mInN 997 (by decide +kernel)
theorem wm_RX1_15 : Cond.methodLinkNest RX1 15 yX7_fill "TrickHouse" ∈ lw_tbl := mInN 232 (by decide +kernel)
theorem wm_RX1_41 : Cond.methodLinkNest RX1 41 yX7_at "TrickHouse" ∈ lw_tbl := mInN 617 (by decide +kernel)
theorem wm_RX1_45 : Cond.methodLinkNest RX1 45 yX7_set "TrickHouse" ∈ lw_tbl := mInN 618 (by decide +kernel)
theorem wk_RX2_41 : Cond.methodLink RX2 41 yX2_begin ∈ mGW := mIn 240 (by decide +kernel) rfl
theorem wk_RX2_45 : Cond.methodLink RX2 45 yX2_clear ∈ mGW := mIn 608 (by decide +kernel) rfl
theorem wk_RX2_79 : Cond.methodLink RX2 79 yX2_full ∈ mGW := mIn 498 (by decide +kernel) rfl
theorem wk_RX2_86 : Cond.methodLink RX2 86 yX2_strongerTrumps ∈ mGW := mIn 521 (by decide +kernel) rfl
theorem wk_RX2_93 : Cond.methodLink RX2 93 yJ9_max_7cf53 ∈ mGW := mIn 528 (by decide +kernel) rfl
theorem wk_RX2_103 : Cond.methodLink RX2 103 yX2_winnerOf ∈ mGW := mIn 574 (by decide +kernel) rfl
theorem wk_RX2_106 : Cond.methodLink RX2 106 yX2_addWon ∈ mGW := mIn 578 (by decide +kernel) rfl
theorem wm_RX2_33 : Cond.methodLinkNest RX2 33 yX7_fill "TrickHouse" ∈ lw_tbl := mInN 239 (by decide +kernel)
theorem wm_RX2_48 : Cond.methodLinkNest RX2 48 yX7_set "TrickHouse" ∈ lw_tbl := mInN 573 (by decide +kernel)
theorem wm_RX2_52 : Cond.methodLinkNest RX2 52 yX7_nextSeed "TrickHouse" ∈ lw_tbl := mInN 609 (by decide +kernel)
theorem wm_RX2_56 : Cond.methodLinkNest RX2 56 yX7_at "TrickHouse" ∈ lw_tbl := mInN 517 (by decide +kernel)
theorem wm_RX2_60 : Cond.methodLinkNest RX2 60 yX7_bitOf "TrickHouse" ∈ lw_tbl := mInN 531 (by decide +kernel)
theorem wm_RX2_63 : Cond.methodLinkNest RX2 63 yX7_take "TrickHouse" ∈ lw_tbl := mInN 543 (by decide +kernel)
theorem wm_RX2_83 : Cond.methodLinkNest RX2 83 yX7_bitsOfSuit "TrickHouse" ∈ lw_tbl := mInN 518 (by decide +kernel)
theorem wm_RX2_89 : Cond.methodLinkNest RX2 89 yX7_strengthOf "TrickHouse" ∈ lw_tbl := mInN 525 (by decide +kernel)
theorem wm_RX2_99 : Cond.methodLinkNest RX2 99 yX7_isCard "TrickHouse" ∈ lw_tbl := mInN 570 (by decide +kernel)
theorem wm_RX3_15 : Cond.methodLinkNest RX3 15 yX7_fill "TrickHouse" ∈ lw_tbl := mInN 248 (by decide +kernel)
theorem wm_RX3_44 : Cond.methodLinkNest RX3 44 yX7_at "TrickHouse" ∈ lw_tbl := mInN 654 (by decide +kernel)
theorem wm_RX3_48 : Cond.methodLinkNest RX3 48 yX7_scoreBy "TrickHouse" ∈ lw_tbl := mInN 655 (by decide +kernel)
theorem wm_RX3_52 : Cond.methodLinkNest RX3 52 yX7_set "TrickHouse" ∈ lw_tbl := mInN 658 (by decide +kernel)
theorem wm_RX4_22 : Cond.methodLinkNest RX4 22 yX7_fill "TrickHouse" ∈ lw_tbl := mInN 987 (by decide +kernel)
theorem wk_RX5_32 : Cond.methodLink RX5 32 yX5_clear ∈ mGW := mIn 224 (by decide +kernel) rfl
theorem wk_RX5_48 : Cond.methodLink RX5 48 yX1_begin ∈ mGW := mIn 228 (by decide +kernel) rfl
theorem wk_RX5_52 : Cond.methodLink RX5 52 yX2_clear ∈ mGW := mIn 235 (by decide +kernel) rfl
theorem wk_RX5_53 : Cond.methodLink RX5 53 yX3_clear ∈ mGW := mIn 244 (by decide +kernel) rfl
theorem wk_RX5_58 : Cond.methodLink RX5 58 yX2_left ∈ mGW := mIn 494 (by decide +kernel) rfl
theorem wk_RX5_62 : Cond.methodLink RX5 62 yX1_mayDouble ∈ mGW := mIn 482 (by decide +kernel) rfl
theorem wk_RX5_66 : Cond.methodLink RX5 66 yX1_mayRedouble ∈ mGW := mIn 486 (by decide +kernel) rfl
theorem wk_RX5_69 : Cond.methodLink RX5 69 yX5_isNearEnd ∈ mGW := mIn 490 (by decide +kernel) rfl
theorem wk_RX5_72 : Cond.methodLink RX5 72 yX5_beginDeal ∈ mGW := mIn 600 (by decide +kernel) rfl
theorem wk_RX5_75 : Cond.methodLink RX5 75 yX1_bid ∈ mGW := mIn 613 (by decide +kernel) rfl
theorem wk_RX5_79 : Cond.methodLink RX5 79 yX5_pass ∈ mGW := mIn 619 (by decide +kernel) rfl
theorem wk_RX5_82 : Cond.methodLink RX5 82 yX1_redoubleOrDouble ∈ mGW := mIn 640 (by decide +kernel) rfl
theorem wk_RX5_85 : Cond.methodLink RX5 85 yX5_playCard ∈ mGW := mIn 644 (by decide +kernel) rfl
theorem wk_RX5_88 : Cond.methodLink RX5 88 yX5_claim ∈ mGW := mIn 659 (by decide +kernel) rfl
theorem wk_RX5_91 : Cond.methodLink RX5 91 yX2_dealOut ∈ mGW := mIn 604 (by decide +kernel) rfl
theorem wk_RX5_94 : Cond.methodLink RX5 94 yX1_pass ∈ mGW := mIn 623 (by decide +kernel) rfl
theorem wk_RX5_95 : Cond.methodLink RX5 95 yX1_hasContract ∈ mGW := mIn 627 (by decide +kernel) rfl
theorem wk_RX5_98 : Cond.methodLink RX5 98 yX1_nameDeclarer ∈ mGW := mIn 631 (by decide +kernel) rfl
theorem wk_RX5_107 : Cond.methodLink RX5 107 yX2_begin ∈ mGW := mIn 635 (by decide +kernel) rfl
theorem wk_RX5_113 : Cond.methodLink RX5 113 yX5_endDeal ∈ mGW := mIn 636 (by decide +kernel) rfl
theorem wk_RX5_116 : Cond.methodLink RX5 116 yX2_lay ∈ mGW := mIn 648 (by decide +kernel) rfl
theorem wk_RX5_130 : Cond.methodLink RX5 130 yX3_settle ∈ mGW := mIn 650 (by decide +kernel) rfl
theorem wk_RX5_134 : Cond.methodLink RX5 134 yX2_addWon ∈ mGW := mIn 663 (by decide +kernel) rfl
theorem wk_RX5_137 : Cond.methodLink RX5 137 yX5_inTurn ∈ mGW := mIn 865 (by decide +kernel) rfl
theorem wk_RX5_146 : Cond.methodLink RX5 146 yX2_full ∈ mGW := mIn 866 (by decide +kernel) rfl
theorem wm_RX5_11 : Cond.methodLinkNest RX5 11 yX1_init "TrickHouse" ∈ lw_tbl := mInN 98 (by decide +kernel)
theorem wm_RX5_20 : Cond.methodLinkNest RX5 20 yX2_init "TrickHouse" ∈ lw_tbl := mInN 143 (by decide +kernel)
theorem wm_RX5_27 : Cond.methodLinkNest RX5 27 yX3_init "TrickHouse" ∈ lw_tbl := mInN 196 (by decide +kernel)
theorem wm_RX5_126 : Cond.methodLinkNest RX5 126 yX7_at "TrickHouse" ∈ lw_tbl := mInN 649 (by decide +kernel)
theorem wk_RX6_35 : Cond.methodLink RX6 35 yX6_readWord ∈ mGW := mIn 376 (by decide +kernel) rfl
theorem wk_RX6_41 : Cond.methodLink RX6 41 yX6_readNumber ∈ mGW := mIn 459 (by decide +kernel) rfl
theorem wk_RX6_44 : Cond.methodLink RX6 44 yX6_readSuit ∈ mGW := mIn 463 (by decide +kernel) rfl
theorem wk_RX6_48 : Cond.methodLink RX6 48 yX6_readEnd ∈ mGW := mIn 470 (by decide +kernel) rfl
theorem wk_RX6_51 : Cond.methodLink RX6 51 yX6_skipBlanks ∈ mGW := mIn 380 (by decide +kernel) rfl
theorem wk_RX6_54 : Cond.methodLink RX6 54 yX6_skipLetters ∈ mGW := mIn 387 (by decide +kernel) rfl
theorem wk_RX6_61 : Cond.methodLink RX6 61 yX6_isText ∈ mGW := mIn 408 (by decide +kernel) rfl
theorem wk_RX6_65 : Cond.methodLink RX6 65 yX6_isBetween ∈ mGW := mIn 391 (by decide +kernel) rfl
theorem wk_RX6_77 : Cond.methodLink RX6 77 yJ0_length_8abf5 ∈ mGW := mIn 412 (by decide +kernel) rfl
theorem wk_RX6_83 : Cond.methodLink RX6 83 yJ0_charAt_5068e ∈ mGW := mIn 421 (by decide +kernel) rfl
theorem wm_RX6_19 : Cond.methodLinkNest RX6 19 yX7_set "TrickHouse" ∈ lw_tbl := mInN 365 (by decide +kernel)
theorem wm_RX6_57 : Cond.methodLinkNest RX6 57 yX7_wordText "TrickHouse" ∈ lw_tbl := mInN 395 (by decide +kernel)
theorem wm_RX6_69 : Cond.methodLinkNest RX6 69 yX7_at "TrickHouse" ∈ lw_tbl := mInN 384 (by decide +kernel)
theorem wm_RX6_73 : Cond.methodLinkNest RX6 73 yX7_suitLetter "TrickHouse" ∈ lw_tbl := mInN 467 (by decide +kernel)
theorem wk_RX7_28 : Cond.methodLink RX7 28 yX5_init ∈ mGW := mIn 92 (by decide +kernel) rfl
theorem wk_RX7_44 : Cond.methodLink RX7 44 yJ4_init_da8c8 ∈ mGW := mIn 280 (by decide +kernel) rfl
theorem wk_RX7_50 : Cond.methodLink RX7 50 yX7_isByte ∈ mGW := mIn 358 (by decide +kernel) rfl
theorem wk_RX7_58 : Cond.methodLink RX7 58 yX6_add ∈ mGW := mIn 361 (by decide +kernel) rfl
theorem wk_RX7_62 : Cond.methodLink RX7 62 yX6_read ∈ mGW := mIn 372 (by decide +kernel) rfl
theorem wk_RX7_74 : Cond.methodLink RX7 74 yX7_refusalOf ∈ mGW := mIn 474 (by decide +kernel) rfl
theorem wk_RX7_81 : Cond.methodLink RX7 81 yX7_isFair ∈ mGW := mIn 505 (by decide +kernel) rfl
theorem wk_RX7_85 : Cond.methodLink RX7 85 yX5_inTurn ∈ mGW := mIn 587 (by decide +kernel) rfl
theorem wk_RX7_89 : Cond.methodLink RX7 89 yX0_add ∈ mGW := mIn 591 (by decide +kernel) rfl
theorem wk_RX7_92 : Cond.methodLink RX7 92 yX5_perform ∈ mGW := mIn 596 (by decide +kernel) rfl
theorem wk_RX7_99 : Cond.methodLink RX7 99 yX7_goThrough ∈ mGW := mIn 668 (by decide +kernel) rfl
theorem wk_RX7_107 : Cond.methodLink RX7 107 yX7_at ∈ mGW := mIn 555 (by decide +kernel) rfl
theorem wk_RX7_120 : Cond.methodLink RX7 120 yX7_writeLine ∈ mGW := mIn 681 (by decide +kernel) rfl
theorem wk_RX7_123 : Cond.methodLink RX7 123 yJ4_length_8abf5 ∈ mGW := mIn 840 (by decide +kernel) rfl
theorem wk_RX7_126 : Cond.methodLink RX7 126 yJ4_charAt_5068e ∈ mGW := mIn 847 (by decide +kernel) rfl
theorem wk_RX7_130 : Cond.methodLink RX7 130 yX5_standing ∈ mGW := mIn 861 (by decide +kernel) rfl
theorem wk_RX7_152 : Cond.methodLink RX7 152 yX2_allowed ∈ mGW := mIn 513 (by decide +kernel) rfl
theorem wk_RX7_156 : Cond.methodLink RX7 156 yX2_full ∈ mGW := mIn 875 (by decide +kernel) rfl
theorem wk_RX7_168 : Cond.methodLink RX7 168 yX2_cardAt ∈ mGW := mIn 876 (by decide +kernel) rfl
theorem wk_RX7_171 : Cond.methodLink RX7 171 yX7_isCard ∈ mGW := mIn 884 (by decide +kernel) rfl
theorem wk_RX7_177 : Cond.methodLink RX7 177 yX7_strengthOf ∈ mGW := mIn 885 (by decide +kernel) rfl
theorem wk_RX7_190 : Cond.methodLink RX7 190 yX7_isHouse ∈ mGW := mIn 894 (by decide +kernel) rfl
theorem wk_RX7_211 : Cond.methodLink RX7 211 yX7_scoreBy ∈ mGW := mIn 897 (by decide +kernel) rfl
theorem wk_RX7_215 : Cond.methodLink RX7 215 yX3_totalOf ∈ mGW := mIn 906 (by decide +kernel) rfl
theorem wk_RX7_218 : Cond.methodLink RX7 218 yX5_isNearEnd ∈ mGW := mIn 914 (by decide +kernel) rfl
theorem wk_RX7_222 : Cond.methodLink RX7 222 yX7_openNow ∈ mGW := mIn 535 (by decide +kernel) rfl
theorem wk_RX7_225 : Cond.methodLink RX7 225 yX7_bitOf ∈ mGW := mIn 534 (by decide +kernel) rfl
theorem wk_RX7_228 : Cond.methodLink RX7 228 yX7_gainsOf ∈ mGW := mIn 919 (by decide +kernel) rfl
theorem wk_RX7_231 : Cond.methodLink RX7 231 yJ6_bitCount_0f7a4 ∈ mGW := mIn 557 (by decide +kernel) rfl
theorem wk_RX7_236 : Cond.methodLink RX7 236 yX7_lowestCard ∈ mGW := mIn 563 (by decide +kernel) rfl
theorem wk_RX7_239 : Cond.methodLink RX7 239 yX7_drawnMade ∈ mGW := mIn 931 (by decide +kernel) rfl
theorem wk_RX7_243 : Cond.methodLink RX7 243 yX7_inLowestTerms ∈ mGW := mIn 943 (by decide +kernel) rfl
theorem wk_RX7_246 : Cond.methodLink RX7 246 yX7_sheetAt ∈ mGW := mIn 954 (by decide +kernel) rfl
theorem wk_RX7_250 : Cond.methodLink RX7 250 yX4_isMissing ∈ mGW := mIn 958 (by decide +kernel) rfl
theorem wk_RX7_254 : Cond.methodLink RX7 254 yX7_firstOtherwise ∈ mGW := mIn 962 (by decide +kernel) rfl
theorem wk_RX7_258 : Cond.methodLink RX7 258 yX7_trumpsThatFit ∈ mGW := mIn 966 (by decide +kernel) rfl
theorem wk_RX7_261 : Cond.methodLink RX7 261 yX7_rankingsThatFit ∈ mGW := mIn 975 (by decide +kernel) rfl
theorem wk_RX7_264 : Cond.methodLink RX7 264 yX4_become ∈ mGW := mIn 983 (by decide +kernel) rfl
theorem wk_RX7_271 : Cond.methodLink RX7 271 yX7_set ∈ mGW := mIn 988 (by decide +kernel) rfl
theorem wk_RX7_275 : Cond.methodLink RX7 275 yX0_become ∈ mGW := mIn 993 (by decide +kernel) rfl
theorem wk_RX7_284 : Cond.methodLink RX7 284 yX4_holds ∈ mGW := mIn 1014 (by decide +kernel) rfl
theorem wk_RX7_294 : Cond.methodLink RX7 294 yX5_isTimeFor ∈ mGW := mIn 478 (by decide +kernel) rfl
theorem wk_RX7_297 : Cond.methodLink RX7 297 yX7_fitsWord ∈ mGW := mIn 502 (by decide +kernel) rfl
theorem wk_RX7_300 : Cond.methodLink RX7 300 yX1_isAbove ∈ mGW := mIn 509 (by decide +kernel) rfl
theorem wk_RX7_303 : Cond.methodLink RX7 303 yX5_clear ∈ mGW := mIn 672 (by decide +kernel) rfl
theorem wk_RX7_306 : Cond.methodLink RX7 306 yJ4_setLength_d00df ∈ mGW := mIn 685 (by decide +kernel) rfl
theorem wk_RX7_309 : Cond.methodLink RX7 309 yX7_wordText ∈ mGW := mIn 739 (by decide +kernel) rfl
theorem wk_RX7_313 : Cond.methodLink RX7 313 yJ4_append_15ec4 ∈ mGW := mIn 740 (by decide +kernel) rfl
theorem wk_RX7_317 : Cond.methodLink RX7 317 yJ4_append_cf468 ∈ mGW := mIn 801 (by decide +kernel) rfl
theorem wk_RX7_320 : Cond.methodLink RX7 320 yX7_suitLetter ∈ mGW := mIn 814 (by decide +kernel) rfl
theorem wk_RX7_323 : Cond.methodLink RX7 323 yJ4_append_bf812 ∈ mGW := mIn 815 (by decide +kernel) rfl
theorem wk_RX7_345 : Cond.methodLink RX7 345 yX2_become ∈ mGW := mIn 539 (by decide +kernel) rfl
theorem wk_RX7_348 : Cond.methodLink RX7 348 yX7_mostMade ∈ mGW := mIn 552 (by decide +kernel) rfl
theorem wk_RX7_355 : Cond.methodLink RX7 355 yX2_lay ∈ mGW := mIn 566 (by decide +kernel) rfl
theorem wk_RX7_358 : Cond.methodLink RX7 358 yX2_left ∈ mGW := mIn 556 (by decide +kernel) rfl
theorem wk_RX7_361 : Cond.methodLink RX7 361 yX2_lift ∈ mGW := mIn 582 (by decide +kernel) rfl
theorem wk_RX7_364 : Cond.methodLink RX7 364 yJ9_max_7cf53 ∈ mGW := mIn 586 (by decide +kernel) rfl
theorem wk_RX7_369 : Cond.methodLink RX7 369 yJ9_min_7cf53 ∈ mGW := mIn 546 (by decide +kernel) rfl
theorem wk_RX7_372 : Cond.methodLink RX7 372 yX7_nextSeed ∈ mGW := mIn 935 (by decide +kernel) rfl
theorem wk_RX7_375 : Cond.methodLink RX7 375 yX7_cardByNumber ∈ mGW := mIn 936 (by decide +kernel) rfl
theorem wk_RX7_381 : Cond.methodLink RX7 381 yX7_wouldBeSo ∈ mGW := mIn 970 (by decide +kernel) rfl
theorem wk_RX7_385 : Cond.methodLink RX7 385 yX2_winnerOf ∈ mGW := mIn 974 (by decide +kernel) rfl
theorem wm_RX7_9 : Cond.methodLinkNest RX7 9 yX6_init "TrickHouse" ∈ lw_tbl := mInN 31 (by decide +kernel)
theorem wm_RX7_18 : Cond.methodLinkNest RX7 18 yX0_init "TrickHouse" ∈ lw_tbl := mInN 65 (by decide +kernel)
theorem wm_RX7_49 : Cond.methodLinkNest RX7 49 yX4_init "TrickHouse" ∈ lw_tbl := mInN 312 (by decide +kernel)
theorem wk_RX8_76 : Cond.methodLink RX8 76 yX8_begins ∈ mGW := mIn 1026 (by decide +kernel) rfl
theorem wk_RX8_115 : Cond.methodLink RX8 115 yX8_clears ∈ mGW := mIn 1030 (by decide +kernel) rfl
theorem wk_RX8_122 : Cond.methodLink RX8 122 yX8_strengthBy ∈ mGW := mIn 1199 (by decide +kernel) rfl
theorem wk_RX8_126 : Cond.methodLink RX8 126 yX8_ofSuit ∈ mGW := mIn 1192 (by decide +kernel) rfl
theorem wk_RX8_130 : Cond.methodLink RX8 130 yX8_trumpNow ∈ mGW := mIn 1195 (by decide +kernel) rfl
theorem wk_RX8_134 : Cond.methodLink RX8 134 yJ9_max_7cf53 ∈ mGW := mIn 1202 (by decide +kernel) rfl
theorem wk_RX8_139 : Cond.methodLink RX8 139 yX8_has ∈ mGW := mIn 1203 (by decide +kernel) rfl
theorem wk_RX8_143 : Cond.methodLink RX8 143 yX8_bit ∈ mGW := mIn 1206 (by decide +kernel) rfl
theorem wk_RX8_147 : Cond.methodLink RX8 147 yX8_plain ∈ mGW := mIn 1339 (by decide +kernel) rfl
theorem wk_RX8_151 : Cond.methodLink RX8 151 yX8_side ∈ mGW := mIn 1209 (by decide +kernel) rfl
theorem wk_RX8_166 : Cond.methodLink RX8 166 yX8_scored ∈ mGW := mIn 1336 (by decide +kernel) rfl
theorem wk_RX8_171 : Cond.methodLink RX8 171 yX8_endsDeal ∈ mGW := mIn 1332 (by decide +kernel) rfl
theorem wk_RX8_175 : Cond.methodLink RX8 175 yX8_leads ∈ mGW := mIn 1224 (by decide +kernel) rfl
theorem wk_RX8_179 : Cond.methodLink RX8 179 yX8_wonBy ∈ mGW := mIn 1220 (by decide +kernel) rfl
theorem wk_RX8_182 : Cond.methodLink RX8 182 yX8_deals ∈ mGW := mIn 1319 (by decide +kernel) rfl
theorem wk_RX8_185 : Cond.methodLink RX8 185 yX8_bids ∈ mGW := mIn 1324 (by decide +kernel) rfl
theorem wk_RX8_189 : Cond.methodLink RX8 189 yX8_passes ∈ mGW := mIn 1328 (by decide +kernel) rfl
theorem wk_RX8_191 : Cond.methodLink RX8 191 yX8_plays ∈ mGW := mIn 1216 (by decide +kernel) rfl
theorem wk_RX8_194 : Cond.methodLink RX8 194 yX8_doesAct ∈ mGW := mIn 1315 (by decide +kernel) rfl
theorem wk_RX8_198 : Cond.methodLink RX8 198 yX8_solved ∈ mGW := mIn 1184 (by decide +kernel) rfl
theorem wk_RX8_201 : Cond.methodLink RX8 201 yX8_mayPlay ∈ mGW := mIn 1188 (by decide +kernel) rfl
theorem wk_RX8_204 : Cond.methodLink RX8 204 yX8_tried ∈ mGW := mIn 1212 (by decide +kernel) rfl
theorem wk_RX8_207 : Cond.methodLink RX8 207 yX8_isLate ∈ mGW := mIn 1180 (by decide +kernel) rfl
theorem wk_RX8_211 : Cond.methodLink RX8 211 yX8_forTurn ∈ mGW := mIn 1228 (by decide +kernel) rfl
theorem wk_RX8_214 : Cond.methodLink RX8 214 yX8_in ∈ mGW := mIn 1236 (by decide +kernel) rfl
theorem wk_RX8_218 : Cond.methodLink RX8 218 yX8_isByte ∈ mGW := mIn 1247 (by decide +kernel) rfl
theorem wk_RX8_225 : Cond.methodLink RX8 225 yJ0_length_8abf5 ∈ mGW := mIn 1275 (by decide +kernel) rfl
theorem wk_RX8_236 : Cond.methodLink RX8 236 yJ0_charAt_5068e ∈ mGW := mIn 1276 (by decide +kernel) rfl
theorem wk_RX8_240 : Cond.methodLink RX8 240 yX8_byteAt ∈ mGW := mIn 1262 (by decide +kernel) rfl
theorem wk_RX8_259 : Cond.methodLink RX8 259 yX8_wordOf ∈ mGW := mIn 1285 (by decide +kernel) rfl
theorem wk_RX8_263 : Cond.methodLink RX8 263 yX8_isWord ∈ mGW := mIn 1271 (by decide +kernel) rfl
theorem wk_RX8_283 : Cond.methodLink RX8 283 yX8_suitRead ∈ mGW := mIn 1266 (by decide +kernel) rfl
theorem wk_RX8_286 : Cond.methodLink RX8 286 yX8_wordRead ∈ mGW := mIn 1281 (by decide +kernel) rfl
theorem wk_RX8_292 : Cond.methodLink RX8 292 yX8_next ∈ mGW := mIn 1258 (by decide +kernel) rfl
theorem wk_RX8_295 : Cond.methodLink RX8 295 yX8_takes ∈ mGW := mIn 1297 (by decide +kernel) rfl
theorem wk_RX8_305 : Cond.methodLink RX8 305 yX8_open ∈ mGW := mIn 1314 (by decide +kernel) rfl
theorem wk_RX8_308 : Cond.methodLink RX8 308 yX8_read ∈ mGW := mIn 1254 (by decide +kernel) rfl
theorem wk_RX8_314 : Cond.methodLink RX8 314 yX8_isTime ∈ mGW := mIn 1302 (by decide +kernel) rfl
theorem wk_RX8_317 : Cond.methodLink RX8 317 yX8_isNumber ∈ mGW := mIn 1306 (by decide +kernel) rfl
theorem wk_RX8_320 : Cond.methodLink RX8 320 yX8_isFair ∈ mGW := mIn 1310 (by decide +kernel) rfl
theorem wk_RX8_323 : Cond.methodLink RX8 323 yX8_goesThrough ∈ mGW := mIn 1346 (by decide +kernel) rfl
theorem wk_RX8_330 : Cond.methodLink RX8 330 yJ4_init_da8c8 ∈ mGW := mIn 1364 (by decide +kernel) rfl
theorem wk_RX8_331 : Cond.methodLink RX8 331 yJ4_append_15ec4 ∈ mGW := mIn 1365 (by decide +kernel) rfl
theorem wk_RX8_337 : Cond.methodLink RX8 337 yJ4_append_cf468 ∈ mGW := mIn 1367 (by decide +kernel) rfl
theorem wk_RX8_340 : Cond.methodLink RX8 340 yJ4_toString_0e30d ∈ mGW := mIn 1368 (by decide +kernel) rfl
theorem wk_RX8_344 : Cond.methodLink RX8 344 yJ4_append_bf812 ∈ mGW := mIn 1418 (by decide +kernel) rfl
theorem wk_RX8_347 : Cond.methodLink RX8 347 yX8_textOf ∈ mGW := mIn 1358 (by decide +kernel) rfl
theorem wk_RX8_350 : Cond.methodLink RX8 350 yX8_answer ∈ mGW := mIn 1423 (by decide +kernel) rfl
theorem wk_RX8_353 : Cond.methodLink RX8 353 yX8_isHouse ∈ mGW := mIn 1447 (by decide +kernel) rfl
theorem wk_RX8_356 : Cond.methodLink RX8 356 yJ6_bitCount_0f7a4 ∈ mGW := mIn 1466 (by decide +kernel) rfl
theorem wk_RX8_361 : Cond.methodLink RX8 361 yX8_byLot ∈ mGW := mIn 1462 (by decide +kernel) rfl
theorem wk_RX8_364 : Cond.methodLink RX8 364 yX8_common ∈ mGW := mIn 1471 (by decide +kernel) rfl
theorem wk_RX8_367 : Cond.methodLink RX8 367 yX8_isSheet ∈ mGW := mIn 1482 (by decide +kernel) rfl
theorem wk_RX8_370 : Cond.methodLink RX8 370 yX8_isSo ∈ mGW := mIn 1485 (by decide +kernel) rfl
theorem wk_RX8_373 : Cond.methodLink RX8 373 yX8_logRow ∈ mGW := mIn 1497 (by decide +kernel) rfl
theorem wk_RJ5_26 : Cond.methodLink RJ5 26 yJ2_newBytesFor_77867 ∈ mGW := mIn 289 (by decide +kernel) rfl
theorem wk_RJ5_32 : Cond.methodLink RJ5 32 yJ0_length_8abf5 ∈ mGW := mIn 766 (by decide +kernel) rfl
theorem wk_RJ5_40 : Cond.methodLink RJ5 40 yJ0_coder_7d493 ∈ mGW := mIn 775 (by decide +kernel) rfl
theorem wk_RJ5_83 : Cond.methodLink RJ5 83 yJ5_isLatin1_aae02 ∈ mGW := mIn 721 (by decide +kernel) rfl
theorem wk_RJ5_100 : Cond.methodLink RJ5 100 yJ5_ensureCapacityInternal_d00df ∈ mGW := mIn 692 (by decide +kernel) rfl
theorem wk_RJ5_104 : Cond.methodLink RJ5 104 yJ5_newCapacity_0f7a4 ∈ mGW := mIn 696 (by decide +kernel) rfl
theorem wk_RJ5_108 : Cond.methodLink RJ5 108 yJ7_copyOf_9075b ∈ mGW := mIn 709 (by decide +kernel) rfl
theorem wk_RJ5_114 : Cond.methodLink RJ5 114 yJ8_newLength_cabcc ∈ mGW := mIn 700 (by decide +kernel) rfl
theorem wk_RJ5_125 : Cond.methodLink RJ5 125 yJ1_inflate_0e8fd ∈ mGW := mIn 780 (by decide +kernel) rfl
theorem wk_RJ5_133 : Cond.methodLink RJ5 133 yJ1_fillNull_b72d1 ∈ mGW := mIn 726 (by decide +kernel) rfl
theorem wk_RJ5_137 : Cond.methodLink RJ5 137 yJ2_fillNull_b72d1 ∈ mGW := mIn 735 (by decide +kernel) rfl
theorem wk_RJ5_138 : Cond.methodLink RJ5 138 yJ9_min_7cf53 ∈ mGW := mIn 854 (by decide +kernel) rfl
theorem wk_RJ5_144 : Cond.methodLink RJ5 144 yJ0_checkIndex_df160 ∈ mGW := mIn 855 (by decide +kernel) rfl
theorem wk_RJ5_148 : Cond.methodLink RJ5 148 yJ2_getChar_3b067 ∈ mGW := mIn 856 (by decide +kernel) rfl
theorem wk_RJ5_191 : Cond.methodLink RJ5 191 yJ1_canEncode_fc78d ∈ mGW := mIn 808 (by decide +kernel) rfl
theorem wk_RJ5_195 : Cond.methodLink RJ5 195 yJ5_inflate_da8c8 ∈ mGW := mIn 776 (by decide +kernel) rfl
theorem wk_RJ5_197 : Cond.methodLink RJ5 197 yJ2_putCharSB_b72d1 ∈ mGW := mIn 811 (by decide +kernel) rfl
theorem wk_RJ5_204 : Cond.methodLink RJ5 204 yJ5_appendNull_278bc ∈ mGW := mIn 747 (by decide +kernel) rfl
theorem wk_RJ5_208 : Cond.methodLink RJ5 208 yJ5_putStringAt_47b60 ∈ mGW := mIn 767 (by decide +kernel) rfl
theorem wk_RJ5_226 : Cond.methodLink RJ5 226 yJ2_putCharsAt_cd4e5 ∈ mGW := mIn 751 (by decide +kernel) rfl
theorem wk_RJ5_245 : Cond.methodLink RJ5 245 yJ6_stringSize_0f7a4 ∈ mGW := mIn 822 (by decide +kernel) rfl
theorem wk_RJ5_248 : Cond.methodLink RJ5 248 yJ6_getChars_ba4f3 ∈ mGW := mIn 825 (by decide +kernel) rfl
theorem wk_RJ5_251 : Cond.methodLink RJ5 251 yJ2_getChars_46870 ∈ mGW := mIn 832 (by decide +kernel) rfl
theorem wk_RJ5_397 : Cond.methodLink RJ5 397 yJ5_inflateIfNeededFor_a7421 ∈ mGW := mIn 771 (by decide +kernel) rfl
theorem wk_RJ5_399 : Cond.methodLink RJ5 399 yJ0_getBytes_840e7 ∈ mGW := mIn 795 (by decide +kernel) rfl
theorem wk_RJ0_47 : Cond.methodLink RJ0 47 yJ2_coderFromArrayLen_85cad ∈ mGW := mIn 1404 (by decide +kernel) rfl
theorem wk_RJ0_54 : Cond.methodLink RJ0 54 yJ7_copyOfRange_39247 ∈ mGW := mIn 1388 (by decide +kernel) rfl
theorem wk_RJ0_106 : Cond.methodLink RJ0 106 yJ1_inflate_0e8fd ∈ mGW := mIn 800 (by decide +kernel) rfl
theorem wk_RJ0_335 : Cond.methodLink RJ0 335 yJ0_coder_7d493 ∈ mGW := mIn 416 (by decide +kernel) rfl
theorem wk_RJ0_489 : Cond.methodLink RJ0 489 yJ0_init_db425 ∈ mGW := mIn 1377 (by decide +kernel) rfl
theorem wk_RJ0_492 : Cond.methodLink RJ0 492 yJ0_isLatin1_aae02 ∈ mGW := mIn 425 (by decide +kernel) rfl
theorem wk_RJ0_495 : Cond.methodLink RJ0 495 yJ1_charAt_3b067 ∈ mGW := mIn 429 (by decide +kernel) rfl
theorem wk_RJ0_498 : Cond.methodLink RJ0 498 yJ2_charAt_3b067 ∈ mGW := mIn 440 (by decide +kernel) rfl
theorem wk_RJ0_549 : Cond.methodLink RJ0 549 yJ5_length_8abf5 ∈ mGW := mIn 1386 (by decide +kernel) rfl
theorem wk_RJ0_552 : Cond.methodLink RJ0 552 yJ5_getValue_6d5f1 ∈ mGW := mIn 1381 (by decide +kernel) rfl
theorem wk_RJ0_1047 : Cond.methodLink RJ0 1047 yJ5_isLatin1_aae02 ∈ mGW := mIn 1387 (by decide +kernel) rfl
theorem wk_RJ0_1051 : Cond.methodLink RJ0 1051 yJ2_compress_39247 ∈ mGW := mIn 1397 (by decide +kernel) rfl
theorem wk_RJ0_1059 : Cond.methodLink RJ0 1059 yJ3_checkIndex_8e157 ∈ mGW := mIn 437 (by decide +kernel) rfl
theorem wk_RJ0_1062 : Cond.methodLink RJ0 1062 yJ3_checkFromToIndex_8c36e ∈ mGW := mIn 760 (by decide +kernel) rfl
theorem wk_RJ0_1065 : Cond.methodLink RJ0 1065 yJ3_checkFromIndexSize_8c36e ∈ mGW := mIn 792 (by decide +kernel) rfl
theorem wk_RJ4_1 : Cond.methodLink RJ4 1 yJ5_init_d00df ∈ mGW := mIn 283 (by decide +kernel) rfl
theorem wk_RJ4_29 : Cond.methodLink RJ4 29 yJ5_append_cf1ce ∈ mGW := mIn 744 (by decide +kernel) rfl
theorem wk_RJ4_50 : Cond.methodLink RJ4 50 yJ5_append_3fe6f ∈ mGW := mIn 805 (by decide +kernel) rfl
theorem wk_RJ4_53 : Cond.methodLink RJ4 53 yJ5_append_c97b9 ∈ mGW := mIn 819 (by decide +kernel) rfl
theorem wk_RJ4_137 : Cond.methodLink RJ4 137 yJ0_init_81219 ∈ mGW := mIn 1374 (by decide +kernel) rfl
theorem wk_RJ4_329 : Cond.methodLink RJ4 329 yJ5_charAt_5068e ∈ mGW := mIn 851 (by decide +kernel) rfl
theorem wk_RJ4_333 : Cond.methodLink RJ4 333 yJ5_setLength_d00df ∈ mGW := mIn 689 (by decide +kernel) rfl
theorem wk_RJ4_343 : Cond.methodLink RJ4 343 yJ5_length_8abf5 ∈ mGW := mIn 844 (by decide +kernel) rfl
theorem wk_RJ1_9 : Cond.methodLink RJ1 9 yJ0_checkIndex_df160 ∈ mGW := mIn 432 (by decide +kernel) rfl
theorem wk_RJ1_236 : Cond.methodLink RJ1 236 yJ7_fill_eb02e ∈ mGW := mIn 729 (by decide +kernel) rfl
theorem wk_RJ1_240 : Cond.methodLink RJ1 240 yJ2_inflate_0e8fd ∈ mGW := mIn 783 (by decide +kernel) rfl
theorem wk_RJ2_11 : Cond.methodLink RJ2 11 yJ2_newBytesLength_0f7a4 ∈ mGW := mIn 292 (by decide +kernel) rfl
theorem wk_RJ2_48 : Cond.methodLink RJ2 48 yJ2_length_9d52b ∈ mGW := mIn 446 (by decide +kernel) rfl
theorem wk_RJ2_67 : Cond.methodLink RJ2 67 yJ2_checkIndex_2214a ∈ mGW := mIn 443 (by decide +kernel) rfl
theorem wk_RJ2_71 : Cond.methodLink RJ2 71 yJ2_getChar_3b067 ∈ mGW := mIn 450 (by decide +kernel) rfl
theorem wk_RJ2_96 : Cond.methodLink RJ2 96 yJ2_checkBoundsBeginEnd_d044e ∈ mGW := mIn 754 (by decide +kernel) rfl
theorem wk_RJ2_111 : Cond.methodLink RJ2 111 yJ2_putChar_b72d1 ∈ mGW := mIn 763 (by decide +kernel) rfl
theorem wk_RJ2_123 : Cond.methodLink RJ2 123 yJ2_compress_5af95 ∈ mGW := mIn 1400 (by decide +kernel) rfl
theorem wk_RJ2_126 : Cond.methodLink RJ2 126 yJ7_copyOfRange_39247 ∈ mGW := mIn 1403 (by decide +kernel) rfl
theorem wk_RJ2_173 : Cond.methodLink RJ2 173 yJ2_checkBoundsOffCount_d044e ∈ mGW := mIn 786 (by decide +kernel) rfl
theorem wk_RJ2_241 : Cond.methodLink RJ2 241 yJ0_checkBoundsBeginEnd_23922 ∈ mGW := mIn 757 (by decide +kernel) rfl
theorem wk_RJ2_380 : Cond.methodLink RJ2 380 yJ7_fill_eb02e ∈ mGW := mIn 738 (by decide +kernel) rfl
theorem wk_RJ2_393 : Cond.methodLink RJ2 393 yJ2_getChars_ba4f3 ∈ mGW := mIn 835 (by decide +kernel) rfl
theorem wk_RJ2_414 : Cond.methodLink RJ2 414 yJ0_checkIndex_df160 ∈ mGW := mIn 449 (by decide +kernel) rfl
theorem wk_RJ2_419 : Cond.methodLink RJ2 419 yJ0_checkBoundsOffCount_cabcc ∈ mGW := mIn 789 (by decide +kernel) rfl
theorem wk_RJ7_13 : Cond.methodLink RJ7 13 yJ7_rangeCheck_23922 ∈ mGW := mIn 732 (by decide +kernel) rfl
theorem wk_RJ7_304 : Cond.methodLink RJ7 304 yJ9_min_7cf53 ∈ mGW := mIn 719 (by decide +kernel) rfl
theorem wk_RJ7_339 : Cond.methodLink RJ7 339 yJ7_copyOfRangeByte_39247 ∈ mGW := mIn 1391 (by decide +kernel) rfl
theorem wk_RJ7_343 : Cond.methodLink RJ7 343 yJ7_checkLength_df160 ∈ mGW := mIn 1394 (by decide +kernel) rfl
theorem wk_RJ8_194 : Cond.methodLink RJ8 194 yJ9_max_7cf53 ∈ mGW := mIn 703 (by decide +kernel) rfl
theorem wk_RJ8_201 : Cond.methodLink RJ8 201 yJ8_hugeLength_7cf53 ∈ mGW := mIn 705 (by decide +kernel) rfl
theorem wk_RL_9 : Cond.methodLink RL 9 yX7_init ∈ mGW := mIn 23 (by decide +kernel) rfl
theorem wk_RL_12 : Cond.methodLink RL 12 yX8_init ∈ mGW := mIn 1020 (by decide +kernel) rfl
theorem wk_RL_13 : Cond.methodLink RL 13 yX7_feed ∈ mGW := mIn 354 (by decide +kernel) rfl
theorem wk_RL_17 : Cond.methodLink RL 17 yX8_feed ∈ mGW := mIn 1243 (by decide +kernel) rfl
theorem wk_RL_18 : Cond.methodLink RL 18 yX7_act ∈ mGW := mIn 368 (by decide +kernel) rfl
theorem wk_RL_22 : Cond.methodLink RL 22 yX8_act ∈ mGW := mIn 1250 (by decide +kernel) rfl
theorem wk_RL_23 : Cond.methodLink RL 23 yX7_undo ∈ mGW := mIn 664 (by decide +kernel) rfl
theorem wk_RL_26 : Cond.methodLink RL 26 yX8_undo ∈ mGW := mIn 1342 (by decide +kernel) rfl
theorem wk_RL_27 : Cond.methodLink RL 27 yX7_log ∈ mGW := mIn 673 (by decide +kernel) rfl
theorem wk_RL_31 : Cond.methodLink RL 31 yX8_log ∈ mGW := mIn 1350 (by decide +kernel) rfl
theorem wk_RL_32 : Cond.methodLink RL 32 yX7_print ∈ mGW := mIn 677 (by decide +kernel) rfl
theorem wk_RL_35 : Cond.methodLink RL 35 yX8_print ∈ mGW := mIn 1354 (by decide +kernel) rfl
theorem wk_RL_36 : Cond.methodLink RL 36 yX7_told ∈ mGW := mIn 857 (by decide +kernel) rfl
theorem wk_RL_40 : Cond.methodLink RL 40 yX8_told ∈ mGW := mIn 1419 (by decide +kernel) rfl
theorem wk_RL_41 : Cond.methodLink RL 41 yX7_hand ∈ mGW := mIn 867 (by decide +kernel) rfl
theorem wk_RL_44 : Cond.methodLink RL 44 yX8_hand ∈ mGW := mIn 1427 (by decide +kernel) rfl
theorem wk_RL_45 : Cond.methodLink RL 45 yX7_trick ∈ mGW := mIn 871 (by decide +kernel) rfl
theorem wk_RL_48 : Cond.methodLink RL 48 yX8_trick ∈ mGW := mIn 1431 (by decide +kernel) rfl
theorem wk_RL_49 : Cond.methodLink RL 49 yX7_strength ∈ mGW := mIn 880 (by decide +kernel) rfl
theorem wk_RL_52 : Cond.methodLink RL 52 yX8_strength ∈ mGW := mIn 1435 (by decide +kernel) rfl
theorem wk_RL_53 : Cond.methodLink RL 53 yX7_taken ∈ mGW := mIn 886 (by decide +kernel) rfl
theorem wk_RL_56 : Cond.methodLink RL 56 yX8_taken ∈ mGW := mIn 1439 (by decide +kernel) rfl
theorem wk_RL_57 : Cond.methodLink RL 57 yX7_score ∈ mGW := mIn 890 (by decide +kernel) rfl
theorem wk_RL_60 : Cond.methodLink RL 60 yX8_score ∈ mGW := mIn 1443 (by decide +kernel) rfl
theorem wk_RL_61 : Cond.methodLink RL 61 yX7_table ∈ mGW := mIn 898 (by decide +kernel) rfl
theorem wk_RL_65 : Cond.methodLink RL 65 yX8_table ∈ mGW := mIn 1450 (by decide +kernel) rfl
theorem wk_RL_66 : Cond.methodLink RL 66 yX7_total ∈ mGW := mIn 902 (by decide +kernel) rfl
theorem wk_RL_69 : Cond.methodLink RL 69 yX8_total ∈ mGW := mIn 1454 (by decide +kernel) rfl
theorem wk_RL_70 : Cond.methodLink RL 70 yX7_open ∈ mGW := mIn 910 (by decide +kernel) rfl
theorem wk_RL_73 : Cond.methodLink RL 73 yX8_open ∈ mGW := mIn 1176 (by decide +kernel) rfl
theorem wk_RL_74 : Cond.methodLink RL 74 yX7_gains ∈ mGW := mIn 915 (by decide +kernel) rfl
theorem wk_RL_77 : Cond.methodLink RL 77 yX8_gains ∈ mGW := mIn 1232 (by decide +kernel) rfl
theorem wk_RL_78 : Cond.methodLink RL 78 yX7_best ∈ mGW := mIn 923 (by decide +kernel) rfl
theorem wk_RL_81 : Cond.methodLink RL 81 yX8_best ∈ mGW := mIn 1239 (by decide +kernel) rfl
theorem wk_RL_82 : Cond.methodLink RL 82 yX7_drawn ∈ mGW := mIn 927 (by decide +kernel) rfl
theorem wk_RL_85 : Cond.methodLink RL 85 yX8_drawn ∈ mGW := mIn 1458 (by decide +kernel) rfl
theorem wk_RL_86 : Cond.methodLink RL 86 yX7_chance ∈ mGW := mIn 939 (by decide +kernel) rfl
theorem wk_RL_90 : Cond.methodLink RL 90 yX8_chance ∈ mGW := mIn 1467 (by decide +kernel) rfl
theorem wk_RL_91 : Cond.methodLink RL 91 yX7_replay ∈ mGW := mIn 946 (by decide +kernel) rfl
theorem wk_RL_94 : Cond.methodLink RL 94 yX8_replay ∈ mGW := mIn 1474 (by decide +kernel) rfl
theorem wk_RL_95 : Cond.methodLink RL 95 yX7_tells ∈ mGW := mIn 950 (by decide +kernel) rfl
theorem wk_RL_98 : Cond.methodLink RL 98 yX8_tells ∈ mGW := mIn 1478 (by decide +kernel) rfl
theorem wk_RL_99 : Cond.methodLink RL 99 yX7_film ∈ mGW := mIn 979 (by decide +kernel) rfl
theorem wk_RL_102 : Cond.methodLink RL 102 yX8_film ∈ mGW := mIn 1489 (by decide +kernel) rfl
theorem wk_RL_103 : Cond.methodLink RL 103 yX7_image ∈ mGW := mIn 989 (by decide +kernel) rfl
theorem wk_RL_106 : Cond.methodLink RL 106 yX8_image ∈ mGW := mIn 1493 (by decide +kernel) rfl
theorem wk_RL_107 : Cond.methodLink RL 107 yX7_back ∈ mGW := mIn 998 (by decide +kernel) rfl
theorem wk_RL_110 : Cond.methodLink RL 110 yX8_back ∈ mGW := mIn 1502 (by decide +kernel) rfl
theorem wk_RL_111 : Cond.methodLink RL 111 yX7_sheet ∈ mGW := mIn 1002 (by decide +kernel) rfl
theorem wk_RL_114 : Cond.methodLink RL 114 yX8_sheet ∈ mGW := mIn 1506 (by decide +kernel) rfl
theorem wk_RL_115 : Cond.methodLink RL 115 yX7_cell ∈ mGW := mIn 1006 (by decide +kernel) rfl
theorem wk_RL_118 : Cond.methodLink RL 118 yX8_cell ∈ mGW := mIn 1510 (by decide +kernel) rfl
theorem wk_RL_119 : Cond.methodLink RL 119 yX7_copy ∈ mGW := mIn 1010 (by decide +kernel) rfl
theorem wk_RL_122 : Cond.methodLink RL 122 yX8_copy ∈ mGW := mIn 1514 (by decide +kernel) rfl
theorem wu_RJ0 : ∀ w ∈ u_ws RJ0 TJ0 4, w ∈ mGW := mSub [1409, 1411, 1413, 1415] (by decide +kernel) (by decide +kernel)
theorem wu_RJ4 : ∀ w ∈ u_ws RJ4 TJ4 4, w ∈ mGW := mSub [301, 303, 305, 307] (by decide +kernel) (by decide +kernel)
theorem wu_RX0 : ∀ w ∈ u_ws RX0 TX0 5, w ∈ mGW := mSub [79, 81, 83, 85, 87] (by decide +kernel) (by decide +kernel)
theorem wu_RX1 : ∀ w ∈ u_ws RX1 TX1 8, w ∈ mGW := mSub [124, 126, 128, 130, 132, 134, 136, 138] (by decide +kernel) (by decide +kernel)
theorem wu_RX2 : ∀ w ∈ u_ws RX2 TX2 12, w ∈ mGW := mSub [169, 171, 173, 175, 177, 179, 181, 183, 185, 187, 189, 191] (by decide +kernel) (by decide +kernel)
theorem wu_RX3 : ∀ w ∈ u_ws RX3 TX3 6, w ∈ mGW := mSub [211, 213, 215, 217, 219, 221] (by decide +kernel) (by decide +kernel)
theorem wu_RX4 : ∀ w ∈ u_ws RX4 TX4 3, w ∈ mGW := mSub [322, 324, 326] (by decide +kernel) (by decide +kernel)
theorem wu_RX5 : ∀ w ∈ u_ws RX5 TX5 7, w ∈ mGW := mSub [261, 263, 265, 267, 269, 271, 273] (by decide +kernel) (by decide +kernel)
theorem wu_RX6 : ∀ w ∈ u_ws RX6 TX6 7, w ∈ mGW := mSub [47, 49, 51, 53, 55, 57, 59] (by decide +kernel) (by decide +kernel)
theorem wu_RX7 : ∀ w ∈ u_ws RX7 TX7 8, w ∈ mGW := mSub [337, 339, 341, 343, 345, 347, 349, 351] (by decide +kernel) (by decide +kernel)
theorem wu_RX8 : ∀ w ∈ u_ws RX8 TX8 47, w ∈ mGW := mSub [1081, 1083, 1085, 1087, 1089, 1091, 1093, 1095, 1097, 1099, 1101, 1103, 1105, 1107, 1109, 1111, 1113, 1115, 1117, 1119, 1121, 1123, 1125, 1127, 1129, 1131, 1133, 1135, 1137, 1139, 1141, 1143, 1145, 1147, 1149, 1151, 1153, 1155, 1157, 1159, 1161, 1163, 1165, 1167, 1169, 1171, 1173] (by decide +kernel) (by decide +kernel)
def fl_RX0 : List (Nat × Nat × Nat × Nat) := [(9, 2, 0, 2), (15, 2, 1, 2), (18, 2, 2, 2), (21, 2, 3, 2), (24, 2, 4, 0)]
theorem fe_RX0_9 : mFldE RX0 (9, 2, 0, 2) := ⟨RX0, TX0, 5, tyX0, rfl, by decide, mIn 69 (by decide +kernel) rfl, wu_RX0, tyX0_ok, nmX0, Or.inl rfl, (fun h => by cases h), (fun h => by cases h), (fun h => by cases h)⟩
theorem fe_RX0_15 : mFldE RX0 (15, 2, 1, 2) := ⟨RX0, TX0, 5, tyX0, rfl, by decide, mIn 71 (by decide +kernel) rfl, wu_RX0, tyX0_ok, nmX0, Or.inl rfl, (fun h => by cases h), (fun h => by cases h), (fun h => by cases h)⟩
theorem fe_RX0_18 : mFldE RX0 (18, 2, 2, 2) := ⟨RX0, TX0, 5, tyX0, rfl, by decide, mIn 73 (by decide +kernel) rfl, wu_RX0, tyX0_ok, nmX0, Or.inl rfl, (fun h => by cases h), (fun h => by cases h), (fun h => by cases h)⟩
theorem fe_RX0_21 : mFldE RX0 (21, 2, 3, 2) := ⟨RX0, TX0, 5, tyX0, rfl, by decide, mIn 75 (by decide +kernel) rfl, wu_RX0, tyX0_ok, nmX0, Or.inl rfl, (fun h => by cases h), (fun h => by cases h), (fun h => by cases h)⟩
theorem fe_RX0_24 : mFldE RX0 (24, 2, 4, 0) := ⟨RX0, TX0, 5, tyX0, rfl, by decide, mIn 77 (by decide +kernel) rfl, wu_RX0, tyX0_ok, nmX0, Or.inr rfl, fun _ => rfl, (fun h => by cases h), (fun h => by cases h)⟩
theorem fk_RX0 : ∀ e ∈ fl_RX0, mFldE RX0 e := List.forall_mem_cons.mpr ⟨fe_RX0_9, List.forall_mem_cons.mpr ⟨fe_RX0_15, List.forall_mem_cons.mpr ⟨fe_RX0_18, List.forall_mem_cons.mpr ⟨fe_RX0_21, List.forall_mem_cons.mpr ⟨fe_RX0_24, fun _ h => absurd h List.not_mem_nil⟩⟩⟩⟩⟩
def fl_RX1 : List (Nat × Nat × Nat × Nat) := [(9, 3, 0, 2), (19, 3, 1, 0), (23, 3, 2, 0), (26, 3, 3, 0), (29, 3, 4, 0), (32, 3, 5, 0), (35, 3, 6, 0), (38, 3, 7, 0)]
theorem fe_RX1_9 : mFldE RX1 (9, 3, 0, 2) := ⟨RX1, TX1, 8, tyX1, rfl, by decide, mIn 102 (by decide +kernel) rfl, wu_RX1, tyX1_ok, nmX1, Or.inl rfl, (fun h => by cases h), (fun h => by cases h), (fun h => by cases h)⟩
theorem fe_RX1_19 : mFldE RX1 (19, 3, 1, 0) := ⟨RX1, TX1, 8, tyX1, rfl, by decide, mIn 103 (by decide +kernel) rfl, wu_RX1, tyX1_ok, nmX1, Or.inr rfl, fun _ => rfl, (fun h => by cases h), (fun h => by cases h)⟩
theorem fe_RX1_23 : mFldE RX1 (23, 3, 2, 0) := ⟨RX1, TX1, 8, tyX1, rfl, by decide, mIn 105 (by decide +kernel) rfl, wu_RX1, tyX1_ok, nmX1, Or.inr rfl, fun _ => rfl, (fun h => by cases h), (fun h => by cases h)⟩
theorem fe_RX1_26 : mFldE RX1 (26, 3, 3, 0) := ⟨RX1, TX1, 8, tyX1, rfl, by decide, mIn 109 (by decide +kernel) rfl, wu_RX1, tyX1_ok, nmX1, Or.inr rfl, fun _ => rfl, (fun h => by cases h), (fun h => by cases h)⟩
theorem fe_RX1_29 : mFldE RX1 (29, 3, 4, 0) := ⟨RX1, TX1, 8, tyX1, rfl, by decide, mIn 113 (by decide +kernel) rfl, wu_RX1, tyX1_ok, nmX1, Or.inr rfl, fun _ => rfl, (fun h => by cases h), (fun h => by cases h)⟩
theorem fe_RX1_32 : mFldE RX1 (32, 3, 5, 0) := ⟨RX1, TX1, 8, tyX1, rfl, by decide, mIn 116 (by decide +kernel) rfl, wu_RX1, tyX1_ok, nmX1, Or.inr rfl, fun _ => rfl, (fun h => by cases h), (fun h => by cases h)⟩
theorem fe_RX1_35 : mFldE RX1 (35, 3, 6, 0) := ⟨RX1, TX1, 8, tyX1, rfl, by decide, mIn 119 (by decide +kernel) rfl, wu_RX1, tyX1_ok, nmX1, Or.inr rfl, fun _ => rfl, (fun h => by cases h), (fun h => by cases h)⟩
theorem fe_RX1_38 : mFldE RX1 (38, 3, 7, 0) := ⟨RX1, TX1, 8, tyX1, rfl, by decide, mIn 121 (by decide +kernel) rfl, wu_RX1, tyX1_ok, nmX1, Or.inr rfl, fun _ => rfl, (fun h => by cases h), (fun h => by cases h)⟩
theorem fk_RX1 : ∀ e ∈ fl_RX1, mFldE RX1 e := List.forall_mem_cons.mpr ⟨fe_RX1_9, List.forall_mem_cons.mpr ⟨fe_RX1_19, List.forall_mem_cons.mpr ⟨fe_RX1_23, List.forall_mem_cons.mpr ⟨fe_RX1_26, List.forall_mem_cons.mpr ⟨fe_RX1_29, List.forall_mem_cons.mpr ⟨fe_RX1_32, List.forall_mem_cons.mpr ⟨fe_RX1_35, List.forall_mem_cons.mpr ⟨fe_RX1_38, fun _ h => absurd h List.not_mem_nil⟩⟩⟩⟩⟩⟩⟩⟩
def fl_RX2 : List (Nat × Nat × Nat × Nat) := [(9, 4, 0, 2), (15, 4, 1, 2), (18, 4, 2, 2), (21, 4, 3, 2), (24, 4, 4, 2), (27, 4, 5, 2), (30, 4, 6, 2), (37, 4, 7, 0), (67, 4, 8, 0), (70, 4, 9, 0), (73, 4, 10, 0), (76, 4, 11, 0)]
theorem fe_RX2_9 : mFldE RX2 (9, 4, 0, 2) := ⟨RX2, TX2, 12, tyX2, rfl, by decide, mIn 147 (by decide +kernel) rfl, wu_RX2, tyX2_ok, nmX2, Or.inl rfl, (fun h => by cases h), (fun h => by cases h), (fun h => by cases h)⟩
theorem fe_RX2_15 : mFldE RX2 (15, 4, 1, 2) := ⟨RX2, TX2, 12, tyX2, rfl, by decide, mIn 148 (by decide +kernel) rfl, wu_RX2, tyX2_ok, nmX2, Or.inl rfl, (fun h => by cases h), (fun h => by cases h), (fun h => by cases h)⟩
theorem fe_RX2_18 : mFldE RX2 (18, 4, 2, 2) := ⟨RX2, TX2, 12, tyX2, rfl, by decide, mIn 150 (by decide +kernel) rfl, wu_RX2, tyX2_ok, nmX2, Or.inl rfl, (fun h => by cases h), (fun h => by cases h), (fun h => by cases h)⟩
theorem fe_RX2_21 : mFldE RX2 (21, 4, 3, 2) := ⟨RX2, TX2, 12, tyX2, rfl, by decide, mIn 152 (by decide +kernel) rfl, wu_RX2, tyX2_ok, nmX2, Or.inl rfl, (fun h => by cases h), (fun h => by cases h), (fun h => by cases h)⟩
theorem fe_RX2_24 : mFldE RX2 (24, 4, 4, 2) := ⟨RX2, TX2, 12, tyX2, rfl, by decide, mIn 154 (by decide +kernel) rfl, wu_RX2, tyX2_ok, nmX2, Or.inl rfl, (fun h => by cases h), (fun h => by cases h), (fun h => by cases h)⟩
theorem fe_RX2_27 : mFldE RX2 (27, 4, 5, 2) := ⟨RX2, TX2, 12, tyX2, rfl, by decide, mIn 156 (by decide +kernel) rfl, wu_RX2, tyX2_ok, nmX2, Or.inl rfl, (fun h => by cases h), (fun h => by cases h), (fun h => by cases h)⟩
theorem fe_RX2_30 : mFldE RX2 (30, 4, 6, 2) := ⟨RX2, TX2, 12, tyX2, rfl, by decide, mIn 158 (by decide +kernel) rfl, wu_RX2, tyX2_ok, nmX2, Or.inl rfl, (fun h => by cases h), (fun h => by cases h), (fun h => by cases h)⟩
theorem fe_RX2_37 : mFldE RX2 (37, 4, 7, 0) := ⟨RX2, TX2, 12, tyX2, rfl, by decide, mIn 161 (by decide +kernel) rfl, wu_RX2, tyX2_ok, nmX2, Or.inr rfl, fun _ => rfl, (fun h => by cases h), (fun h => by cases h)⟩
theorem fe_RX2_67 : mFldE RX2 (67, 4, 8, 0) := ⟨RX2, TX2, 12, tyX2, rfl, by decide, mIn 164 (by decide +kernel) rfl, wu_RX2, tyX2_ok, nmX2, Or.inr rfl, fun _ => rfl, (fun h => by cases h), (fun h => by cases h)⟩
theorem fe_RX2_70 : mFldE RX2 (70, 4, 9, 0) := ⟨RX2, TX2, 12, tyX2, rfl, by decide, mIn 166 (by decide +kernel) rfl, wu_RX2, tyX2_ok, nmX2, Or.inr rfl, fun _ => rfl, (fun h => by cases h), (fun h => by cases h)⟩
theorem fe_RX2_73 : mFldE RX2 (73, 4, 10, 0) := ⟨RX2, TX2, 12, tyX2, rfl, by decide, mIn 167 (by decide +kernel) rfl, wu_RX2, tyX2_ok, nmX2, Or.inr rfl, fun _ => rfl, (fun h => by cases h), (fun h => by cases h)⟩
theorem fe_RX2_76 : mFldE RX2 (76, 4, 11, 0) := ⟨RX2, TX2, 12, tyX2, rfl, by decide, mIn 168 (by decide +kernel) rfl, wu_RX2, tyX2_ok, nmX2, Or.inr rfl, fun _ => rfl, (fun h => by cases h), (fun h => by cases h)⟩
theorem fk_RX2 : ∀ e ∈ fl_RX2, mFldE RX2 e := List.forall_mem_cons.mpr ⟨fe_RX2_9, List.forall_mem_cons.mpr ⟨fe_RX2_15, List.forall_mem_cons.mpr ⟨fe_RX2_18, List.forall_mem_cons.mpr ⟨fe_RX2_21, List.forall_mem_cons.mpr ⟨fe_RX2_24, List.forall_mem_cons.mpr ⟨fe_RX2_27, List.forall_mem_cons.mpr ⟨fe_RX2_30, List.forall_mem_cons.mpr ⟨fe_RX2_37, List.forall_mem_cons.mpr ⟨fe_RX2_67, List.forall_mem_cons.mpr ⟨fe_RX2_70, List.forall_mem_cons.mpr ⟨fe_RX2_73, List.forall_mem_cons.mpr ⟨fe_RX2_76, fun _ h => absurd h List.not_mem_nil⟩⟩⟩⟩⟩⟩⟩⟩⟩⟩⟩⟩
def fl_RX3 : List (Nat × Nat × Nat × Nat) := [(9, 5, 0, 2), (19, 5, 1, 1), (23, 5, 2, 0), (27, 3, 2, 0), (32, 5, 3, 0), (33, 3, 3, 0), (36, 5, 4, 0), (37, 3, 5, 0), (40, 5, 5, 0), (41, 3, 4, 0)]
theorem fe_RX3_9 : mFldE RX3 (9, 5, 0, 2) := ⟨RX3, TX3, 6, tyX3, rfl, by decide, mIn 200 (by decide +kernel) rfl, wu_RX3, tyX3_ok, nmX3, Or.inl rfl, (fun h => by cases h), (fun h => by cases h), (fun h => by cases h)⟩
theorem fe_RX3_19 : mFldE RX3 (19, 5, 1, 1) := ⟨RX3, TX3, 6, tyX3, rfl, by decide, mIn 201 (by decide +kernel) rfl, wu_RX3, tyX3_ok, nmX3, Or.inr rfl, (fun h => by cases h), fun _ => rfl, (fun h => by cases h)⟩
theorem fe_RX3_23 : mFldE RX3 (23, 5, 2, 0) := ⟨RX3, TX3, 6, tyX3, rfl, by decide, mIn 203 (by decide +kernel) rfl, wu_RX3, tyX3_ok, nmX3, Or.inr rfl, fun _ => rfl, (fun h => by cases h), (fun h => by cases h)⟩
theorem fe_RX3_27 : mFldE RX3 (27, 3, 2, 0) := ⟨RX1, TX1, 8, tyX1, rfl, by decide, mIn 106 (by decide +kernel) rfl, wu_RX1, tyX1_ok, nmX1, Or.inr rfl, fun _ => rfl, (fun h => by cases h), (fun h => by cases h)⟩
theorem fe_RX3_32 : mFldE RX3 (32, 5, 3, 0) := ⟨RX3, TX3, 6, tyX3, rfl, by decide, mIn 205 (by decide +kernel) rfl, wu_RX3, tyX3_ok, nmX3, Or.inr rfl, fun _ => rfl, (fun h => by cases h), (fun h => by cases h)⟩
theorem fe_RX3_33 : mFldE RX3 (33, 3, 3, 0) := ⟨RX1, TX1, 8, tyX1, rfl, by decide, mIn 110 (by decide +kernel) rfl, wu_RX1, tyX1_ok, nmX1, Or.inr rfl, fun _ => rfl, (fun h => by cases h), (fun h => by cases h)⟩
theorem fe_RX3_36 : mFldE RX3 (36, 5, 4, 0) := ⟨RX3, TX3, 6, tyX3, rfl, by decide, mIn 207 (by decide +kernel) rfl, wu_RX3, tyX3_ok, nmX3, Or.inr rfl, fun _ => rfl, (fun h => by cases h), (fun h => by cases h)⟩
theorem fe_RX3_37 : mFldE RX3 (37, 3, 5, 0) := ⟨RX1, TX1, 8, tyX1, rfl, by decide, mIn 117 (by decide +kernel) rfl, wu_RX1, tyX1_ok, nmX1, Or.inr rfl, fun _ => rfl, (fun h => by cases h), (fun h => by cases h)⟩
theorem fe_RX3_40 : mFldE RX3 (40, 5, 5, 0) := ⟨RX3, TX3, 6, tyX3, rfl, by decide, mIn 209 (by decide +kernel) rfl, wu_RX3, tyX3_ok, nmX3, Or.inr rfl, fun _ => rfl, (fun h => by cases h), (fun h => by cases h)⟩
theorem fe_RX3_41 : mFldE RX3 (41, 3, 4, 0) := ⟨RX1, TX1, 8, tyX1, rfl, by decide, mIn 114 (by decide +kernel) rfl, wu_RX1, tyX1_ok, nmX1, Or.inr rfl, fun _ => rfl, (fun h => by cases h), (fun h => by cases h)⟩
theorem fk_RX3 : ∀ e ∈ fl_RX3, mFldE RX3 e := List.forall_mem_cons.mpr ⟨fe_RX3_9, List.forall_mem_cons.mpr ⟨fe_RX3_19, List.forall_mem_cons.mpr ⟨fe_RX3_23, List.forall_mem_cons.mpr ⟨fe_RX3_27, List.forall_mem_cons.mpr ⟨fe_RX3_32, List.forall_mem_cons.mpr ⟨fe_RX3_33, List.forall_mem_cons.mpr ⟨fe_RX3_36, List.forall_mem_cons.mpr ⟨fe_RX3_37, List.forall_mem_cons.mpr ⟨fe_RX3_40, List.forall_mem_cons.mpr ⟨fe_RX3_41, fun _ h => absurd h List.not_mem_nil⟩⟩⟩⟩⟩⟩⟩⟩⟩⟩
def fl_RX4 : List (Nat × Nat × Nat × Nat) := [(9, 6, 0, 2), (15, 6, 1, 0), (19, 6, 2, 0)]
theorem fe_RX4_9 : mFldE RX4 (9, 6, 0, 2) := ⟨RX4, TX4, 3, tyX4, rfl, by decide, mIn 316 (by decide +kernel) rfl, wu_RX4, tyX4_ok, nmX4, Or.inl rfl, (fun h => by cases h), (fun h => by cases h), (fun h => by cases h)⟩
theorem fe_RX4_15 : mFldE RX4 (15, 6, 1, 0) := ⟨RX4, TX4, 3, tyX4, rfl, by decide, mIn 318 (by decide +kernel) rfl, wu_RX4, tyX4_ok, nmX4, Or.inr rfl, fun _ => rfl, (fun h => by cases h), (fun h => by cases h)⟩
theorem fe_RX4_19 : mFldE RX4 (19, 6, 2, 0) := ⟨RX4, TX4, 3, tyX4, rfl, by decide, mIn 320 (by decide +kernel) rfl, wu_RX4, tyX4_ok, nmX4, Or.inr rfl, fun _ => rfl, (fun h => by cases h), (fun h => by cases h)⟩
theorem fk_RX4 : ∀ e ∈ fl_RX4, mFldE RX4 e := List.forall_mem_cons.mpr ⟨fe_RX4_9, List.forall_mem_cons.mpr ⟨fe_RX4_15, List.forall_mem_cons.mpr ⟨fe_RX4_19, fun _ h => absurd h List.not_mem_nil⟩⟩⟩
def fl_RX5 : List (Nat × Nat × Nat × Nat) := [(12, 7, 0, 2), (21, 7, 1, 2), (28, 7, 2, 2), (35, 7, 3, 0), (39, 7, 4, 0), (42, 7, 5, 0), (45, 7, 6, 0), (54, 3, 1, 0), (57, 4, 8, 0), (101, 3, 7, 0), (104, 3, 3, 0), (110, 3, 6, 0), (119, 4, 6, 2), (123, 3, 4, 0), (140, 3, 2, 0), (143, 3, 5, 0)]
theorem fe_RX5_12 : mFldE RX5 (12, 7, 0, 2) := ⟨RX5, TX5, 7, tyX5, rfl, by decide, mIn 249 (by decide +kernel) rfl, wu_RX5, tyX5_ok, nmX5, Or.inl rfl, (fun h => by cases h), (fun h => by cases h), (fun h => by cases h)⟩
theorem fe_RX5_21 : mFldE RX5 (21, 7, 1, 2) := ⟨RX5, TX5, 7, tyX5, rfl, by decide, mIn 251 (by decide +kernel) rfl, wu_RX5, tyX5_ok, nmX5, Or.inl rfl, (fun h => by cases h), (fun h => by cases h), (fun h => by cases h)⟩
theorem fe_RX5_28 : mFldE RX5 (28, 7, 2, 2) := ⟨RX5, TX5, 7, tyX5, rfl, by decide, mIn 253 (by decide +kernel) rfl, wu_RX5, tyX5_ok, nmX5, Or.inl rfl, (fun h => by cases h), (fun h => by cases h), (fun h => by cases h)⟩
theorem fe_RX5_35 : mFldE RX5 (35, 7, 3, 0) := ⟨RX5, TX5, 7, tyX5, rfl, by decide, mIn 255 (by decide +kernel) rfl, wu_RX5, tyX5_ok, nmX5, Or.inr rfl, fun _ => rfl, (fun h => by cases h), (fun h => by cases h)⟩
theorem fe_RX5_39 : mFldE RX5 (39, 7, 4, 0) := ⟨RX5, TX5, 7, tyX5, rfl, by decide, mIn 257 (by decide +kernel) rfl, wu_RX5, tyX5_ok, nmX5, Or.inr rfl, fun _ => rfl, (fun h => by cases h), (fun h => by cases h)⟩
theorem fe_RX5_42 : mFldE RX5 (42, 7, 5, 0) := ⟨RX5, TX5, 7, tyX5, rfl, by decide, mIn 258 (by decide +kernel) rfl, wu_RX5, tyX5_ok, nmX5, Or.inr rfl, fun _ => rfl, (fun h => by cases h), (fun h => by cases h)⟩
theorem fe_RX5_45 : mFldE RX5 (45, 7, 6, 0) := ⟨RX5, TX5, 7, tyX5, rfl, by decide, mIn 260 (by decide +kernel) rfl, wu_RX5, tyX5_ok, nmX5, Or.inr rfl, fun _ => rfl, (fun h => by cases h), (fun h => by cases h)⟩
theorem fe_RX5_54 : mFldE RX5 (54, 3, 1, 0) := ⟨RX1, TX1, 8, tyX1, rfl, by decide, mIn 104 (by decide +kernel) rfl, wu_RX1, tyX1_ok, nmX1, Or.inr rfl, fun _ => rfl, (fun h => by cases h), (fun h => by cases h)⟩
theorem fe_RX5_57 : mFldE RX5 (57, 4, 8, 0) := ⟨RX2, TX2, 12, tyX2, rfl, by decide, mIn 163 (by decide +kernel) rfl, wu_RX2, tyX2_ok, nmX2, Or.inr rfl, fun _ => rfl, (fun h => by cases h), (fun h => by cases h)⟩
theorem fe_RX5_101 : mFldE RX5 (101, 3, 7, 0) := ⟨RX1, TX1, 8, tyX1, rfl, by decide, mIn 122 (by decide +kernel) rfl, wu_RX1, tyX1_ok, nmX1, Or.inr rfl, fun _ => rfl, (fun h => by cases h), (fun h => by cases h)⟩
theorem fe_RX5_104 : mFldE RX5 (104, 3, 3, 0) := ⟨RX1, TX1, 8, tyX1, rfl, by decide, mIn 111 (by decide +kernel) rfl, wu_RX1, tyX1_ok, nmX1, Or.inr rfl, fun _ => rfl, (fun h => by cases h), (fun h => by cases h)⟩
theorem fe_RX5_110 : mFldE RX5 (110, 3, 6, 0) := ⟨RX1, TX1, 8, tyX1, rfl, by decide, mIn 120 (by decide +kernel) rfl, wu_RX1, tyX1_ok, nmX1, Or.inr rfl, fun _ => rfl, (fun h => by cases h), (fun h => by cases h)⟩
theorem fe_RX5_119 : mFldE RX5 (119, 4, 6, 2) := ⟨RX2, TX2, 12, tyX2, rfl, by decide, mIn 159 (by decide +kernel) rfl, wu_RX2, tyX2_ok, nmX2, Or.inl rfl, (fun h => by cases h), (fun h => by cases h), (fun h => by cases h)⟩
theorem fe_RX5_123 : mFldE RX5 (123, 3, 4, 0) := ⟨RX1, TX1, 8, tyX1, rfl, by decide, mIn 115 (by decide +kernel) rfl, wu_RX1, tyX1_ok, nmX1, Or.inr rfl, fun _ => rfl, (fun h => by cases h), (fun h => by cases h)⟩
theorem fe_RX5_140 : mFldE RX5 (140, 3, 2, 0) := ⟨RX1, TX1, 8, tyX1, rfl, by decide, mIn 107 (by decide +kernel) rfl, wu_RX1, tyX1_ok, nmX1, Or.inr rfl, fun _ => rfl, (fun h => by cases h), (fun h => by cases h)⟩
theorem fe_RX5_143 : mFldE RX5 (143, 3, 5, 0) := ⟨RX1, TX1, 8, tyX1, rfl, by decide, mIn 118 (by decide +kernel) rfl, wu_RX1, tyX1_ok, nmX1, Or.inr rfl, fun _ => rfl, (fun h => by cases h), (fun h => by cases h)⟩
theorem fk_RX5 : ∀ e ∈ fl_RX5, mFldE RX5 e := List.forall_mem_cons.mpr ⟨fe_RX5_12, List.forall_mem_cons.mpr ⟨fe_RX5_21, List.forall_mem_cons.mpr ⟨fe_RX5_28, List.forall_mem_cons.mpr ⟨fe_RX5_35, List.forall_mem_cons.mpr ⟨fe_RX5_39, List.forall_mem_cons.mpr ⟨fe_RX5_42, List.forall_mem_cons.mpr ⟨fe_RX5_45, List.forall_mem_cons.mpr ⟨fe_RX5_54, List.forall_mem_cons.mpr ⟨fe_RX5_57, List.forall_mem_cons.mpr ⟨fe_RX5_101, List.forall_mem_cons.mpr ⟨fe_RX5_104, List.forall_mem_cons.mpr ⟨fe_RX5_110, List.forall_mem_cons.mpr ⟨fe_RX5_119, List.forall_mem_cons.mpr ⟨fe_RX5_123, List.forall_mem_cons.mpr ⟨fe_RX5_140, List.forall_mem_cons.mpr ⟨fe_RX5_143, fun _ h => absurd h List.not_mem_nil⟩⟩⟩⟩⟩⟩⟩⟩⟩⟩⟩⟩⟩⟩⟩⟩
def fl_RX6 : List (Nat × Nat × Nat × Nat) := [(9, 8, 0, 2), (15, 8, 1, 0), (23, 8, 2, 0), (26, 8, 3, 0), (29, 8, 5, 0), (32, 8, 6, 0), (38, 8, 4, 0)]
theorem fe_RX6_9 : mFldE RX6 (9, 8, 0, 2) := ⟨RX6, TX6, 7, tyX6, rfl, by decide, mIn 35 (by decide +kernel) rfl, wu_RX6, tyX6_ok, nmX6, Or.inl rfl, (fun h => by cases h), (fun h => by cases h), (fun h => by cases h)⟩
theorem fe_RX6_15 : mFldE RX6 (15, 8, 1, 0) := ⟨RX6, TX6, 7, tyX6, rfl, by decide, mIn 36 (by decide +kernel) rfl, wu_RX6, tyX6_ok, nmX6, Or.inr rfl, fun _ => rfl, (fun h => by cases h), (fun h => by cases h)⟩
theorem fe_RX6_23 : mFldE RX6 (23, 8, 2, 0) := ⟨RX6, TX6, 7, tyX6, rfl, by decide, mIn 38 (by decide +kernel) rfl, wu_RX6, tyX6_ok, nmX6, Or.inr rfl, fun _ => rfl, (fun h => by cases h), (fun h => by cases h)⟩
theorem fe_RX6_26 : mFldE RX6 (26, 8, 3, 0) := ⟨RX6, TX6, 7, tyX6, rfl, by decide, mIn 39 (by decide +kernel) rfl, wu_RX6, tyX6_ok, nmX6, Or.inr rfl, fun _ => rfl, (fun h => by cases h), (fun h => by cases h)⟩
theorem fe_RX6_29 : mFldE RX6 (29, 8, 5, 0) := ⟨RX6, TX6, 7, tyX6, rfl, by decide, mIn 43 (by decide +kernel) rfl, wu_RX6, tyX6_ok, nmX6, Or.inr rfl, fun _ => rfl, (fun h => by cases h), (fun h => by cases h)⟩
theorem fe_RX6_32 : mFldE RX6 (32, 8, 6, 0) := ⟨RX6, TX6, 7, tyX6, rfl, by decide, mIn 45 (by decide +kernel) rfl, wu_RX6, tyX6_ok, nmX6, Or.inr rfl, fun _ => rfl, (fun h => by cases h), (fun h => by cases h)⟩
theorem fe_RX6_38 : mFldE RX6 (38, 8, 4, 0) := ⟨RX6, TX6, 7, tyX6, rfl, by decide, mIn 41 (by decide +kernel) rfl, wu_RX6, tyX6_ok, nmX6, Or.inr rfl, fun _ => rfl, (fun h => by cases h), (fun h => by cases h)⟩
theorem fk_RX6 : ∀ e ∈ fl_RX6, mFldE RX6 e := List.forall_mem_cons.mpr ⟨fe_RX6_9, List.forall_mem_cons.mpr ⟨fe_RX6_15, List.forall_mem_cons.mpr ⟨fe_RX6_23, List.forall_mem_cons.mpr ⟨fe_RX6_26, List.forall_mem_cons.mpr ⟨fe_RX6_29, List.forall_mem_cons.mpr ⟨fe_RX6_32, List.forall_mem_cons.mpr ⟨fe_RX6_38, fun _ h => absurd h List.not_mem_nil⟩⟩⟩⟩⟩⟩⟩
def fl_RX7 : List (Nat × Nat × Nat × Nat) := [(10, 9, 0, 2), (19, 9, 1, 2), (23, 9, 2, 2), (29, 9, 3, 2), (33, 9, 4, 2), (38, 9, 5, 2), (45, 9, 6, 2), (54, 8, 1, 0), (65, 8, 3, 0), (68, 8, 4, 0), (71, 8, 5, 0), (78, 8, 6, 0), (96, 2, 4, 0), (103, 2, 0, 2), (111, 2, 1, 2), (114, 2, 2, 2), (117, 2, 3, 2), (134, 7, 1, 2), (138, 4, 2, 2), (143, 4, 1, 2), (146, 7, 3, 0), (149, 4, 8, 0), (155, 4, 7, 0), (159, 4, 4, 2), (162, 4, 5, 2), (165, 4, 3, 2), (174, 7, 5, 0), (181, 7, 0, 2), (185, 3, 3, 0), (193, 7, 2, 2), (197, 5, 1, 1), (203, 5, 2, 0), (206, 5, 3, 0), (207, 5, 4, 0), (208, 5, 5, 0), (242, 3, 2, 0), (253, 6, 2, 0), (268, 6, 0, 2), (278, 9, 7, 1), (281, 6, 1, 0), (352, 4, 6, 2), (378, 3, 7, 0)]
theorem fe_RX7_10 : mFldE RX7 (10, 9, 0, 2) := ⟨RX7, TX7, 8, tyX7, rfl, by decide, mIn 329 (by decide +kernel) rfl, wu_RX7, tyX7_ok, nmX7, Or.inl rfl, (fun h => by cases h), (fun h => by cases h), (fun h => by cases h)⟩
theorem fe_RX7_19 : mFldE RX7 (19, 9, 1, 2) := ⟨RX7, TX7, 8, tyX7, rfl, by decide, mIn 330 (by decide +kernel) rfl, wu_RX7, tyX7_ok, nmX7, Or.inl rfl, (fun h => by cases h), (fun h => by cases h), (fun h => by cases h)⟩
theorem fe_RX7_23 : mFldE RX7 (23, 9, 2, 2) := ⟨RX7, TX7, 8, tyX7, rfl, by decide, mIn 331 (by decide +kernel) rfl, wu_RX7, tyX7_ok, nmX7, Or.inl rfl, (fun h => by cases h), (fun h => by cases h), (fun h => by cases h)⟩
theorem fe_RX7_29 : mFldE RX7 (29, 9, 3, 2) := ⟨RX7, TX7, 8, tyX7, rfl, by decide, mIn 332 (by decide +kernel) rfl, wu_RX7, tyX7_ok, nmX7, Or.inl rfl, (fun h => by cases h), (fun h => by cases h), (fun h => by cases h)⟩
theorem fe_RX7_33 : mFldE RX7 (33, 9, 4, 2) := ⟨RX7, TX7, 8, tyX7, rfl, by decide, mIn 333 (by decide +kernel) rfl, wu_RX7, tyX7_ok, nmX7, Or.inl rfl, (fun h => by cases h), (fun h => by cases h), (fun h => by cases h)⟩
theorem fe_RX7_38 : mFldE RX7 (38, 9, 5, 2) := ⟨RX7, TX7, 8, tyX7, rfl, by decide, mIn 334 (by decide +kernel) rfl, wu_RX7, tyX7_ok, nmX7, Or.inl rfl, (fun h => by cases h), (fun h => by cases h), (fun h => by cases h)⟩
theorem fe_RX7_45 : mFldE RX7 (45, 9, 6, 2) := ⟨RX7, TX7, 8, tyX7, rfl, by decide, mIn 335 (by decide +kernel) rfl, wu_RX7, tyX7_ok, nmX7, Or.inl rfl, (fun h => by cases h), (fun h => by cases h), (fun h => by cases h)⟩
theorem fe_RX7_54 : mFldE RX7 (54, 8, 1, 0) := ⟨RX6, TX6, 7, tyX6, rfl, by decide, mIn 37 (by decide +kernel) rfl, wu_RX6, tyX6_ok, nmX6, Or.inr rfl, fun _ => rfl, (fun h => by cases h), (fun h => by cases h)⟩
theorem fe_RX7_65 : mFldE RX7 (65, 8, 3, 0) := ⟨RX6, TX6, 7, tyX6, rfl, by decide, mIn 40 (by decide +kernel) rfl, wu_RX6, tyX6_ok, nmX6, Or.inr rfl, fun _ => rfl, (fun h => by cases h), (fun h => by cases h)⟩
theorem fe_RX7_68 : mFldE RX7 (68, 8, 4, 0) := ⟨RX6, TX6, 7, tyX6, rfl, by decide, mIn 42 (by decide +kernel) rfl, wu_RX6, tyX6_ok, nmX6, Or.inr rfl, fun _ => rfl, (fun h => by cases h), (fun h => by cases h)⟩
theorem fe_RX7_71 : mFldE RX7 (71, 8, 5, 0) := ⟨RX6, TX6, 7, tyX6, rfl, by decide, mIn 44 (by decide +kernel) rfl, wu_RX6, tyX6_ok, nmX6, Or.inr rfl, fun _ => rfl, (fun h => by cases h), (fun h => by cases h)⟩
theorem fe_RX7_78 : mFldE RX7 (78, 8, 6, 0) := ⟨RX6, TX6, 7, tyX6, rfl, by decide, mIn 46 (by decide +kernel) rfl, wu_RX6, tyX6_ok, nmX6, Or.inr rfl, fun _ => rfl, (fun h => by cases h), (fun h => by cases h)⟩
theorem fe_RX7_96 : mFldE RX7 (96, 2, 4, 0) := ⟨RX0, TX0, 5, tyX0, rfl, by decide, mIn 78 (by decide +kernel) rfl, wu_RX0, tyX0_ok, nmX0, Or.inr rfl, fun _ => rfl, (fun h => by cases h), (fun h => by cases h)⟩
theorem fe_RX7_103 : mFldE RX7 (103, 2, 0, 2) := ⟨RX0, TX0, 5, tyX0, rfl, by decide, mIn 70 (by decide +kernel) rfl, wu_RX0, tyX0_ok, nmX0, Or.inl rfl, (fun h => by cases h), (fun h => by cases h), (fun h => by cases h)⟩
theorem fe_RX7_111 : mFldE RX7 (111, 2, 1, 2) := ⟨RX0, TX0, 5, tyX0, rfl, by decide, mIn 72 (by decide +kernel) rfl, wu_RX0, tyX0_ok, nmX0, Or.inl rfl, (fun h => by cases h), (fun h => by cases h), (fun h => by cases h)⟩
theorem fe_RX7_114 : mFldE RX7 (114, 2, 2, 2) := ⟨RX0, TX0, 5, tyX0, rfl, by decide, mIn 74 (by decide +kernel) rfl, wu_RX0, tyX0_ok, nmX0, Or.inl rfl, (fun h => by cases h), (fun h => by cases h), (fun h => by cases h)⟩
theorem fe_RX7_117 : mFldE RX7 (117, 2, 3, 2) := ⟨RX0, TX0, 5, tyX0, rfl, by decide, mIn 76 (by decide +kernel) rfl, wu_RX0, tyX0_ok, nmX0, Or.inl rfl, (fun h => by cases h), (fun h => by cases h), (fun h => by cases h)⟩
theorem fe_RX7_134 : mFldE RX7 (134, 7, 1, 2) := ⟨RX5, TX5, 7, tyX5, rfl, by decide, mIn 252 (by decide +kernel) rfl, wu_RX5, tyX5_ok, nmX5, Or.inl rfl, (fun h => by cases h), (fun h => by cases h), (fun h => by cases h)⟩
theorem fe_RX7_138 : mFldE RX7 (138, 4, 2, 2) := ⟨RX2, TX2, 12, tyX2, rfl, by decide, mIn 151 (by decide +kernel) rfl, wu_RX2, tyX2_ok, nmX2, Or.inl rfl, (fun h => by cases h), (fun h => by cases h), (fun h => by cases h)⟩
theorem fe_RX7_143 : mFldE RX7 (143, 4, 1, 2) := ⟨RX2, TX2, 12, tyX2, rfl, by decide, mIn 149 (by decide +kernel) rfl, wu_RX2, tyX2_ok, nmX2, Or.inl rfl, (fun h => by cases h), (fun h => by cases h), (fun h => by cases h)⟩
theorem fe_RX7_146 : mFldE RX7 (146, 7, 3, 0) := ⟨RX5, TX5, 7, tyX5, rfl, by decide, mIn 256 (by decide +kernel) rfl, wu_RX5, tyX5_ok, nmX5, Or.inr rfl, fun _ => rfl, (fun h => by cases h), (fun h => by cases h)⟩
theorem fe_RX7_149 : mFldE RX7 (149, 4, 8, 0) := ⟨RX2, TX2, 12, tyX2, rfl, by decide, mIn 165 (by decide +kernel) rfl, wu_RX2, tyX2_ok, nmX2, Or.inr rfl, fun _ => rfl, (fun h => by cases h), (fun h => by cases h)⟩
theorem fe_RX7_155 : mFldE RX7 (155, 4, 7, 0) := ⟨RX2, TX2, 12, tyX2, rfl, by decide, mIn 162 (by decide +kernel) rfl, wu_RX2, tyX2_ok, nmX2, Or.inr rfl, fun _ => rfl, (fun h => by cases h), (fun h => by cases h)⟩
theorem fe_RX7_159 : mFldE RX7 (159, 4, 4, 2) := ⟨RX2, TX2, 12, tyX2, rfl, by decide, mIn 155 (by decide +kernel) rfl, wu_RX2, tyX2_ok, nmX2, Or.inl rfl, (fun h => by cases h), (fun h => by cases h), (fun h => by cases h)⟩
theorem fe_RX7_162 : mFldE RX7 (162, 4, 5, 2) := ⟨RX2, TX2, 12, tyX2, rfl, by decide, mIn 157 (by decide +kernel) rfl, wu_RX2, tyX2_ok, nmX2, Or.inl rfl, (fun h => by cases h), (fun h => by cases h), (fun h => by cases h)⟩
theorem fe_RX7_165 : mFldE RX7 (165, 4, 3, 2) := ⟨RX2, TX2, 12, tyX2, rfl, by decide, mIn 153 (by decide +kernel) rfl, wu_RX2, tyX2_ok, nmX2, Or.inl rfl, (fun h => by cases h), (fun h => by cases h), (fun h => by cases h)⟩
theorem fe_RX7_174 : mFldE RX7 (174, 7, 5, 0) := ⟨RX5, TX5, 7, tyX5, rfl, by decide, mIn 259 (by decide +kernel) rfl, wu_RX5, tyX5_ok, nmX5, Or.inr rfl, fun _ => rfl, (fun h => by cases h), (fun h => by cases h)⟩
theorem fe_RX7_181 : mFldE RX7 (181, 7, 0, 2) := ⟨RX5, TX5, 7, tyX5, rfl, by decide, mIn 250 (by decide +kernel) rfl, wu_RX5, tyX5_ok, nmX5, Or.inl rfl, (fun h => by cases h), (fun h => by cases h), (fun h => by cases h)⟩
theorem fe_RX7_185 : mFldE RX7 (185, 3, 3, 0) := ⟨RX1, TX1, 8, tyX1, rfl, by decide, mIn 112 (by decide +kernel) rfl, wu_RX1, tyX1_ok, nmX1, Or.inr rfl, fun _ => rfl, (fun h => by cases h), (fun h => by cases h)⟩
theorem fe_RX7_193 : mFldE RX7 (193, 7, 2, 2) := ⟨RX5, TX5, 7, tyX5, rfl, by decide, mIn 254 (by decide +kernel) rfl, wu_RX5, tyX5_ok, nmX5, Or.inl rfl, (fun h => by cases h), (fun h => by cases h), (fun h => by cases h)⟩
theorem fe_RX7_197 : mFldE RX7 (197, 5, 1, 1) := ⟨RX3, TX3, 6, tyX3, rfl, by decide, mIn 202 (by decide +kernel) rfl, wu_RX3, tyX3_ok, nmX3, Or.inr rfl, (fun h => by cases h), fun _ => rfl, (fun h => by cases h)⟩
theorem fe_RX7_203 : mFldE RX7 (203, 5, 2, 0) := ⟨RX3, TX3, 6, tyX3, rfl, by decide, mIn 204 (by decide +kernel) rfl, wu_RX3, tyX3_ok, nmX3, Or.inr rfl, fun _ => rfl, (fun h => by cases h), (fun h => by cases h)⟩
theorem fe_RX7_206 : mFldE RX7 (206, 5, 3, 0) := ⟨RX3, TX3, 6, tyX3, rfl, by decide, mIn 206 (by decide +kernel) rfl, wu_RX3, tyX3_ok, nmX3, Or.inr rfl, fun _ => rfl, (fun h => by cases h), (fun h => by cases h)⟩
theorem fe_RX7_207 : mFldE RX7 (207, 5, 4, 0) := ⟨RX3, TX3, 6, tyX3, rfl, by decide, mIn 208 (by decide +kernel) rfl, wu_RX3, tyX3_ok, nmX3, Or.inr rfl, fun _ => rfl, (fun h => by cases h), (fun h => by cases h)⟩
theorem fe_RX7_208 : mFldE RX7 (208, 5, 5, 0) := ⟨RX3, TX3, 6, tyX3, rfl, by decide, mIn 210 (by decide +kernel) rfl, wu_RX3, tyX3_ok, nmX3, Or.inr rfl, fun _ => rfl, (fun h => by cases h), (fun h => by cases h)⟩
theorem fe_RX7_242 : mFldE RX7 (242, 3, 2, 0) := ⟨RX1, TX1, 8, tyX1, rfl, by decide, mIn 108 (by decide +kernel) rfl, wu_RX1, tyX1_ok, nmX1, Or.inr rfl, fun _ => rfl, (fun h => by cases h), (fun h => by cases h)⟩
theorem fe_RX7_253 : mFldE RX7 (253, 6, 2, 0) := ⟨RX4, TX4, 3, tyX4, rfl, by decide, mIn 321 (by decide +kernel) rfl, wu_RX4, tyX4_ok, nmX4, Or.inr rfl, fun _ => rfl, (fun h => by cases h), (fun h => by cases h)⟩
theorem fe_RX7_268 : mFldE RX7 (268, 6, 0, 2) := ⟨RX4, TX4, 3, tyX4, rfl, by decide, mIn 317 (by decide +kernel) rfl, wu_RX4, tyX4_ok, nmX4, Or.inl rfl, (fun h => by cases h), (fun h => by cases h), (fun h => by cases h)⟩
theorem fe_RX7_278 : mFldE RX7 (278, 9, 7, 1) := ⟨RX7, TX7, 8, tyX7, rfl, by decide, mIn 336 (by decide +kernel) rfl, wu_RX7, tyX7_ok, nmX7, Or.inr rfl, (fun h => by cases h), fun _ => rfl, (fun h => by cases h)⟩
theorem fe_RX7_281 : mFldE RX7 (281, 6, 1, 0) := ⟨RX4, TX4, 3, tyX4, rfl, by decide, mIn 319 (by decide +kernel) rfl, wu_RX4, tyX4_ok, nmX4, Or.inr rfl, fun _ => rfl, (fun h => by cases h), (fun h => by cases h)⟩
theorem fe_RX7_352 : mFldE RX7 (352, 4, 6, 2) := ⟨RX2, TX2, 12, tyX2, rfl, by decide, mIn 160 (by decide +kernel) rfl, wu_RX2, tyX2_ok, nmX2, Or.inl rfl, (fun h => by cases h), (fun h => by cases h), (fun h => by cases h)⟩
theorem fe_RX7_378 : mFldE RX7 (378, 3, 7, 0) := ⟨RX1, TX1, 8, tyX1, rfl, by decide, mIn 123 (by decide +kernel) rfl, wu_RX1, tyX1_ok, nmX1, Or.inr rfl, fun _ => rfl, (fun h => by cases h), (fun h => by cases h)⟩
theorem fk_RX7 : ∀ e ∈ fl_RX7, mFldE RX7 e := List.forall_mem_cons.mpr ⟨fe_RX7_10, List.forall_mem_cons.mpr ⟨fe_RX7_19, List.forall_mem_cons.mpr ⟨fe_RX7_23, List.forall_mem_cons.mpr ⟨fe_RX7_29, List.forall_mem_cons.mpr ⟨fe_RX7_33, List.forall_mem_cons.mpr ⟨fe_RX7_38, List.forall_mem_cons.mpr ⟨fe_RX7_45, List.forall_mem_cons.mpr ⟨fe_RX7_54, List.forall_mem_cons.mpr ⟨fe_RX7_65, List.forall_mem_cons.mpr ⟨fe_RX7_68, List.forall_mem_cons.mpr ⟨fe_RX7_71, List.forall_mem_cons.mpr ⟨fe_RX7_78, List.forall_mem_cons.mpr ⟨fe_RX7_96, List.forall_mem_cons.mpr ⟨fe_RX7_103, List.forall_mem_cons.mpr ⟨fe_RX7_111, List.forall_mem_cons.mpr ⟨fe_RX7_114, List.forall_mem_cons.mpr ⟨fe_RX7_117, List.forall_mem_cons.mpr ⟨fe_RX7_134, List.forall_mem_cons.mpr ⟨fe_RX7_138, List.forall_mem_cons.mpr ⟨fe_RX7_143, List.forall_mem_cons.mpr ⟨fe_RX7_146, List.forall_mem_cons.mpr ⟨fe_RX7_149, List.forall_mem_cons.mpr ⟨fe_RX7_155, List.forall_mem_cons.mpr ⟨fe_RX7_159, List.forall_mem_cons.mpr ⟨fe_RX7_162, List.forall_mem_cons.mpr ⟨fe_RX7_165, List.forall_mem_cons.mpr ⟨fe_RX7_174, List.forall_mem_cons.mpr ⟨fe_RX7_181, List.forall_mem_cons.mpr ⟨fe_RX7_185, List.forall_mem_cons.mpr ⟨fe_RX7_193, List.forall_mem_cons.mpr ⟨fe_RX7_197, List.forall_mem_cons.mpr ⟨fe_RX7_203, List.forall_mem_cons.mpr ⟨fe_RX7_206, List.forall_mem_cons.mpr ⟨fe_RX7_207, List.forall_mem_cons.mpr ⟨fe_RX7_208, List.forall_mem_cons.mpr ⟨fe_RX7_242, List.forall_mem_cons.mpr ⟨fe_RX7_253, List.forall_mem_cons.mpr ⟨fe_RX7_268, List.forall_mem_cons.mpr ⟨fe_RX7_278, List.forall_mem_cons.mpr ⟨fe_RX7_281, List.forall_mem_cons.mpr ⟨fe_RX7_352, List.forall_mem_cons.mpr ⟨fe_RX7_378, fun _ h => absurd h List.not_mem_nil⟩⟩⟩⟩⟩⟩⟩⟩⟩⟩⟩⟩⟩⟩⟩⟩⟩⟩⟩⟩⟩⟩⟩⟩⟩⟩⟩⟩⟩⟩⟩⟩⟩⟩⟩⟩⟩⟩⟩⟩⟩⟩
def fl_RX8 : List (Nat × Nat × Nat × Nat) := [(9, 10, 1, 2), (13, 10, 2, 2), (16, 10, 3, 2), (19, 10, 4, 2), (24, 10, 16, 2), (27, 10, 17, 2), (30, 10, 18, 2), (33, 10, 20, 2), (36, 10, 21, 2), (39, 10, 22, 2), (42, 10, 23, 2), (45, 10, 24, 2), (48, 10, 25, 2), (51, 10, 31, 2), (54, 10, 32, 2), (57, 10, 41, 0), (61, 10, 42, 2), (64, 10, 43, 2), (67, 10, 44, 2), (70, 10, 45, 2), (73, 10, 46, 2), (79, 10, 8, 0), (82, 10, 9, 0), (85, 10, 10, 0), (88, 10, 11, 0), (91, 10, 12, 0), (94, 10, 13, 0), (97, 10, 19, 0), (100, 10, 5, 0), (103, 10, 6, 0), (106, 10, 7, 0), (109, 10, 14, 0), (112, 10, 15, 0), (118, 10, 26, 1), (154, 10, 27, 0), (157, 10, 28, 0), (160, 10, 29, 0), (163, 10, 30, 0), (222, 10, 33, 0), (230, 10, 34, 0), (233, 10, 35, 0), (277, 10, 40, 1), (280, 10, 36, 0), (289, 10, 37, 0), (298, 10, 38, 0), (301, 10, 39, 0), (311, 10, 0, 0)]
theorem fe_RX8_9 : mFldE RX8 (9, 10, 1, 2) := ⟨RX8, TX8, 47, tyX8, rfl, by decide, mIn 1035 (by decide +kernel) rfl, wu_RX8, tyX8_ok, nmX8, Or.inl rfl, (fun h => by cases h), (fun h => by cases h), (fun h => by cases h)⟩
theorem fe_RX8_13 : mFldE RX8 (13, 10, 2, 2) := ⟨RX8, TX8, 47, tyX8, rfl, by decide, mIn 1036 (by decide +kernel) rfl, wu_RX8, tyX8_ok, nmX8, Or.inl rfl, (fun h => by cases h), (fun h => by cases h), (fun h => by cases h)⟩
theorem fe_RX8_16 : mFldE RX8 (16, 10, 3, 2) := ⟨RX8, TX8, 47, tyX8, rfl, by decide, mIn 1037 (by decide +kernel) rfl, wu_RX8, tyX8_ok, nmX8, Or.inl rfl, (fun h => by cases h), (fun h => by cases h), (fun h => by cases h)⟩
theorem fe_RX8_19 : mFldE RX8 (19, 10, 4, 2) := ⟨RX8, TX8, 47, tyX8, rfl, by decide, mIn 1038 (by decide +kernel) rfl, wu_RX8, tyX8_ok, nmX8, Or.inl rfl, (fun h => by cases h), (fun h => by cases h), (fun h => by cases h)⟩
theorem fe_RX8_24 : mFldE RX8 (24, 10, 16, 2) := ⟨RX8, TX8, 47, tyX8, rfl, by decide, mIn 1050 (by decide +kernel) rfl, wu_RX8, tyX8_ok, nmX8, Or.inl rfl, (fun h => by cases h), (fun h => by cases h), (fun h => by cases h)⟩
theorem fe_RX8_27 : mFldE RX8 (27, 10, 17, 2) := ⟨RX8, TX8, 47, tyX8, rfl, by decide, mIn 1051 (by decide +kernel) rfl, wu_RX8, tyX8_ok, nmX8, Or.inl rfl, (fun h => by cases h), (fun h => by cases h), (fun h => by cases h)⟩
theorem fe_RX8_30 : mFldE RX8 (30, 10, 18, 2) := ⟨RX8, TX8, 47, tyX8, rfl, by decide, mIn 1052 (by decide +kernel) rfl, wu_RX8, tyX8_ok, nmX8, Or.inl rfl, (fun h => by cases h), (fun h => by cases h), (fun h => by cases h)⟩
theorem fe_RX8_33 : mFldE RX8 (33, 10, 20, 2) := ⟨RX8, TX8, 47, tyX8, rfl, by decide, mIn 1054 (by decide +kernel) rfl, wu_RX8, tyX8_ok, nmX8, Or.inl rfl, (fun h => by cases h), (fun h => by cases h), (fun h => by cases h)⟩
theorem fe_RX8_36 : mFldE RX8 (36, 10, 21, 2) := ⟨RX8, TX8, 47, tyX8, rfl, by decide, mIn 1055 (by decide +kernel) rfl, wu_RX8, tyX8_ok, nmX8, Or.inl rfl, (fun h => by cases h), (fun h => by cases h), (fun h => by cases h)⟩
theorem fe_RX8_39 : mFldE RX8 (39, 10, 22, 2) := ⟨RX8, TX8, 47, tyX8, rfl, by decide, mIn 1056 (by decide +kernel) rfl, wu_RX8, tyX8_ok, nmX8, Or.inl rfl, (fun h => by cases h), (fun h => by cases h), (fun h => by cases h)⟩
theorem fe_RX8_42 : mFldE RX8 (42, 10, 23, 2) := ⟨RX8, TX8, 47, tyX8, rfl, by decide, mIn 1057 (by decide +kernel) rfl, wu_RX8, tyX8_ok, nmX8, Or.inl rfl, (fun h => by cases h), (fun h => by cases h), (fun h => by cases h)⟩
theorem fe_RX8_45 : mFldE RX8 (45, 10, 24, 2) := ⟨RX8, TX8, 47, tyX8, rfl, by decide, mIn 1058 (by decide +kernel) rfl, wu_RX8, tyX8_ok, nmX8, Or.inl rfl, (fun h => by cases h), (fun h => by cases h), (fun h => by cases h)⟩
theorem fe_RX8_48 : mFldE RX8 (48, 10, 25, 2) := ⟨RX8, TX8, 47, tyX8, rfl, by decide, mIn 1059 (by decide +kernel) rfl, wu_RX8, tyX8_ok, nmX8, Or.inl rfl, (fun h => by cases h), (fun h => by cases h), (fun h => by cases h)⟩
theorem fe_RX8_51 : mFldE RX8 (51, 10, 31, 2) := ⟨RX8, TX8, 47, tyX8, rfl, by decide, mIn 1065 (by decide +kernel) rfl, wu_RX8, tyX8_ok, nmX8, Or.inl rfl, (fun h => by cases h), (fun h => by cases h), (fun h => by cases h)⟩
theorem fe_RX8_54 : mFldE RX8 (54, 10, 32, 2) := ⟨RX8, TX8, 47, tyX8, rfl, by decide, mIn 1066 (by decide +kernel) rfl, wu_RX8, tyX8_ok, nmX8, Or.inl rfl, (fun h => by cases h), (fun h => by cases h), (fun h => by cases h)⟩
theorem fe_RX8_57 : mFldE RX8 (57, 10, 41, 0) := ⟨RX8, TX8, 47, tyX8, rfl, by decide, mIn 1075 (by decide +kernel) rfl, wu_RX8, tyX8_ok, nmX8, Or.inr rfl, fun _ => rfl, (fun h => by cases h), (fun h => by cases h)⟩
theorem fe_RX8_61 : mFldE RX8 (61, 10, 42, 2) := ⟨RX8, TX8, 47, tyX8, rfl, by decide, mIn 1076 (by decide +kernel) rfl, wu_RX8, tyX8_ok, nmX8, Or.inl rfl, (fun h => by cases h), (fun h => by cases h), (fun h => by cases h)⟩
theorem fe_RX8_64 : mFldE RX8 (64, 10, 43, 2) := ⟨RX8, TX8, 47, tyX8, rfl, by decide, mIn 1077 (by decide +kernel) rfl, wu_RX8, tyX8_ok, nmX8, Or.inl rfl, (fun h => by cases h), (fun h => by cases h), (fun h => by cases h)⟩
theorem fe_RX8_67 : mFldE RX8 (67, 10, 44, 2) := ⟨RX8, TX8, 47, tyX8, rfl, by decide, mIn 1078 (by decide +kernel) rfl, wu_RX8, tyX8_ok, nmX8, Or.inl rfl, (fun h => by cases h), (fun h => by cases h), (fun h => by cases h)⟩
theorem fe_RX8_70 : mFldE RX8 (70, 10, 45, 2) := ⟨RX8, TX8, 47, tyX8, rfl, by decide, mIn 1079 (by decide +kernel) rfl, wu_RX8, tyX8_ok, nmX8, Or.inl rfl, (fun h => by cases h), (fun h => by cases h), (fun h => by cases h)⟩
theorem fe_RX8_73 : mFldE RX8 (73, 10, 46, 2) := ⟨RX8, TX8, 47, tyX8, rfl, by decide, mIn 1080 (by decide +kernel) rfl, wu_RX8, tyX8_ok, nmX8, Or.inl rfl, (fun h => by cases h), (fun h => by cases h), (fun h => by cases h)⟩
theorem fe_RX8_79 : mFldE RX8 (79, 10, 8, 0) := ⟨RX8, TX8, 47, tyX8, rfl, by decide, mIn 1042 (by decide +kernel) rfl, wu_RX8, tyX8_ok, nmX8, Or.inr rfl, fun _ => rfl, (fun h => by cases h), (fun h => by cases h)⟩
theorem fe_RX8_82 : mFldE RX8 (82, 10, 9, 0) := ⟨RX8, TX8, 47, tyX8, rfl, by decide, mIn 1043 (by decide +kernel) rfl, wu_RX8, tyX8_ok, nmX8, Or.inr rfl, fun _ => rfl, (fun h => by cases h), (fun h => by cases h)⟩
theorem fe_RX8_85 : mFldE RX8 (85, 10, 10, 0) := ⟨RX8, TX8, 47, tyX8, rfl, by decide, mIn 1044 (by decide +kernel) rfl, wu_RX8, tyX8_ok, nmX8, Or.inr rfl, fun _ => rfl, (fun h => by cases h), (fun h => by cases h)⟩
theorem fe_RX8_88 : mFldE RX8 (88, 10, 11, 0) := ⟨RX8, TX8, 47, tyX8, rfl, by decide, mIn 1045 (by decide +kernel) rfl, wu_RX8, tyX8_ok, nmX8, Or.inr rfl, fun _ => rfl, (fun h => by cases h), (fun h => by cases h)⟩
theorem fe_RX8_91 : mFldE RX8 (91, 10, 12, 0) := ⟨RX8, TX8, 47, tyX8, rfl, by decide, mIn 1046 (by decide +kernel) rfl, wu_RX8, tyX8_ok, nmX8, Or.inr rfl, fun _ => rfl, (fun h => by cases h), (fun h => by cases h)⟩
theorem fe_RX8_94 : mFldE RX8 (94, 10, 13, 0) := ⟨RX8, TX8, 47, tyX8, rfl, by decide, mIn 1047 (by decide +kernel) rfl, wu_RX8, tyX8_ok, nmX8, Or.inr rfl, fun _ => rfl, (fun h => by cases h), (fun h => by cases h)⟩
theorem fe_RX8_97 : mFldE RX8 (97, 10, 19, 0) := ⟨RX8, TX8, 47, tyX8, rfl, by decide, mIn 1053 (by decide +kernel) rfl, wu_RX8, tyX8_ok, nmX8, Or.inr rfl, fun _ => rfl, (fun h => by cases h), (fun h => by cases h)⟩
theorem fe_RX8_100 : mFldE RX8 (100, 10, 5, 0) := ⟨RX8, TX8, 47, tyX8, rfl, by decide, mIn 1039 (by decide +kernel) rfl, wu_RX8, tyX8_ok, nmX8, Or.inr rfl, fun _ => rfl, (fun h => by cases h), (fun h => by cases h)⟩
theorem fe_RX8_103 : mFldE RX8 (103, 10, 6, 0) := ⟨RX8, TX8, 47, tyX8, rfl, by decide, mIn 1040 (by decide +kernel) rfl, wu_RX8, tyX8_ok, nmX8, Or.inr rfl, fun _ => rfl, (fun h => by cases h), (fun h => by cases h)⟩
theorem fe_RX8_106 : mFldE RX8 (106, 10, 7, 0) := ⟨RX8, TX8, 47, tyX8, rfl, by decide, mIn 1041 (by decide +kernel) rfl, wu_RX8, tyX8_ok, nmX8, Or.inr rfl, fun _ => rfl, (fun h => by cases h), (fun h => by cases h)⟩
theorem fe_RX8_109 : mFldE RX8 (109, 10, 14, 0) := ⟨RX8, TX8, 47, tyX8, rfl, by decide, mIn 1048 (by decide +kernel) rfl, wu_RX8, tyX8_ok, nmX8, Or.inr rfl, fun _ => rfl, (fun h => by cases h), (fun h => by cases h)⟩
theorem fe_RX8_112 : mFldE RX8 (112, 10, 15, 0) := ⟨RX8, TX8, 47, tyX8, rfl, by decide, mIn 1049 (by decide +kernel) rfl, wu_RX8, tyX8_ok, nmX8, Or.inr rfl, fun _ => rfl, (fun h => by cases h), (fun h => by cases h)⟩
theorem fe_RX8_118 : mFldE RX8 (118, 10, 26, 1) := ⟨RX8, TX8, 47, tyX8, rfl, by decide, mIn 1060 (by decide +kernel) rfl, wu_RX8, tyX8_ok, nmX8, Or.inr rfl, (fun h => by cases h), fun _ => rfl, (fun h => by cases h)⟩
theorem fe_RX8_154 : mFldE RX8 (154, 10, 27, 0) := ⟨RX8, TX8, 47, tyX8, rfl, by decide, mIn 1061 (by decide +kernel) rfl, wu_RX8, tyX8_ok, nmX8, Or.inr rfl, fun _ => rfl, (fun h => by cases h), (fun h => by cases h)⟩
theorem fe_RX8_157 : mFldE RX8 (157, 10, 28, 0) := ⟨RX8, TX8, 47, tyX8, rfl, by decide, mIn 1062 (by decide +kernel) rfl, wu_RX8, tyX8_ok, nmX8, Or.inr rfl, fun _ => rfl, (fun h => by cases h), (fun h => by cases h)⟩
theorem fe_RX8_160 : mFldE RX8 (160, 10, 29, 0) := ⟨RX8, TX8, 47, tyX8, rfl, by decide, mIn 1063 (by decide +kernel) rfl, wu_RX8, tyX8_ok, nmX8, Or.inr rfl, fun _ => rfl, (fun h => by cases h), (fun h => by cases h)⟩
theorem fe_RX8_163 : mFldE RX8 (163, 10, 30, 0) := ⟨RX8, TX8, 47, tyX8, rfl, by decide, mIn 1064 (by decide +kernel) rfl, wu_RX8, tyX8_ok, nmX8, Or.inr rfl, fun _ => rfl, (fun h => by cases h), (fun h => by cases h)⟩
theorem fe_RX8_222 : mFldE RX8 (222, 10, 33, 0) := ⟨RX8, TX8, 47, tyX8, rfl, by decide, mIn 1067 (by decide +kernel) rfl, wu_RX8, tyX8_ok, nmX8, Or.inr rfl, fun _ => rfl, (fun h => by cases h), (fun h => by cases h)⟩
theorem fe_RX8_230 : mFldE RX8 (230, 10, 34, 0) := ⟨RX8, TX8, 47, tyX8, rfl, by decide, mIn 1068 (by decide +kernel) rfl, wu_RX8, tyX8_ok, nmX8, Or.inr rfl, fun _ => rfl, (fun h => by cases h), (fun h => by cases h)⟩
theorem fe_RX8_233 : mFldE RX8 (233, 10, 35, 0) := ⟨RX8, TX8, 47, tyX8, rfl, by decide, mIn 1069 (by decide +kernel) rfl, wu_RX8, tyX8_ok, nmX8, Or.inr rfl, fun _ => rfl, (fun h => by cases h), (fun h => by cases h)⟩
theorem fe_RX8_277 : mFldE RX8 (277, 10, 40, 1) := ⟨RX8, TX8, 47, tyX8, rfl, by decide, mIn 1074 (by decide +kernel) rfl, wu_RX8, tyX8_ok, nmX8, Or.inr rfl, (fun h => by cases h), fun _ => rfl, (fun h => by cases h)⟩
theorem fe_RX8_280 : mFldE RX8 (280, 10, 36, 0) := ⟨RX8, TX8, 47, tyX8, rfl, by decide, mIn 1070 (by decide +kernel) rfl, wu_RX8, tyX8_ok, nmX8, Or.inr rfl, fun _ => rfl, (fun h => by cases h), (fun h => by cases h)⟩
theorem fe_RX8_289 : mFldE RX8 (289, 10, 37, 0) := ⟨RX8, TX8, 47, tyX8, rfl, by decide, mIn 1071 (by decide +kernel) rfl, wu_RX8, tyX8_ok, nmX8, Or.inr rfl, fun _ => rfl, (fun h => by cases h), (fun h => by cases h)⟩
theorem fe_RX8_298 : mFldE RX8 (298, 10, 38, 0) := ⟨RX8, TX8, 47, tyX8, rfl, by decide, mIn 1072 (by decide +kernel) rfl, wu_RX8, tyX8_ok, nmX8, Or.inr rfl, fun _ => rfl, (fun h => by cases h), (fun h => by cases h)⟩
theorem fe_RX8_301 : mFldE RX8 (301, 10, 39, 0) := ⟨RX8, TX8, 47, tyX8, rfl, by decide, mIn 1073 (by decide +kernel) rfl, wu_RX8, tyX8_ok, nmX8, Or.inr rfl, fun _ => rfl, (fun h => by cases h), (fun h => by cases h)⟩
theorem fe_RX8_311 : mFldE RX8 (311, 10, 0, 0) := ⟨RX8, TX8, 47, tyX8, rfl, by decide, mIn 1034 (by decide +kernel) rfl, wu_RX8, tyX8_ok, nmX8, Or.inr rfl, fun _ => rfl, (fun h => by cases h), (fun h => by cases h)⟩
theorem fk_RX8 : ∀ e ∈ fl_RX8, mFldE RX8 e := List.forall_mem_cons.mpr ⟨fe_RX8_9, List.forall_mem_cons.mpr ⟨fe_RX8_13, List.forall_mem_cons.mpr ⟨fe_RX8_16, List.forall_mem_cons.mpr ⟨fe_RX8_19, List.forall_mem_cons.mpr ⟨fe_RX8_24, List.forall_mem_cons.mpr ⟨fe_RX8_27, List.forall_mem_cons.mpr ⟨fe_RX8_30, List.forall_mem_cons.mpr ⟨fe_RX8_33, List.forall_mem_cons.mpr ⟨fe_RX8_36, List.forall_mem_cons.mpr ⟨fe_RX8_39, List.forall_mem_cons.mpr ⟨fe_RX8_42, List.forall_mem_cons.mpr ⟨fe_RX8_45, List.forall_mem_cons.mpr ⟨fe_RX8_48, List.forall_mem_cons.mpr ⟨fe_RX8_51, List.forall_mem_cons.mpr ⟨fe_RX8_54, List.forall_mem_cons.mpr ⟨fe_RX8_57, List.forall_mem_cons.mpr ⟨fe_RX8_61, List.forall_mem_cons.mpr ⟨fe_RX8_64, List.forall_mem_cons.mpr ⟨fe_RX8_67, List.forall_mem_cons.mpr ⟨fe_RX8_70, List.forall_mem_cons.mpr ⟨fe_RX8_73, List.forall_mem_cons.mpr ⟨fe_RX8_79, List.forall_mem_cons.mpr ⟨fe_RX8_82, List.forall_mem_cons.mpr ⟨fe_RX8_85, List.forall_mem_cons.mpr ⟨fe_RX8_88, List.forall_mem_cons.mpr ⟨fe_RX8_91, List.forall_mem_cons.mpr ⟨fe_RX8_94, List.forall_mem_cons.mpr ⟨fe_RX8_97, List.forall_mem_cons.mpr ⟨fe_RX8_100, List.forall_mem_cons.mpr ⟨fe_RX8_103, List.forall_mem_cons.mpr ⟨fe_RX8_106, List.forall_mem_cons.mpr ⟨fe_RX8_109, List.forall_mem_cons.mpr ⟨fe_RX8_112, List.forall_mem_cons.mpr ⟨fe_RX8_118, List.forall_mem_cons.mpr ⟨fe_RX8_154, List.forall_mem_cons.mpr ⟨fe_RX8_157, List.forall_mem_cons.mpr ⟨fe_RX8_160, List.forall_mem_cons.mpr ⟨fe_RX8_163, List.forall_mem_cons.mpr ⟨fe_RX8_222, List.forall_mem_cons.mpr ⟨fe_RX8_230, List.forall_mem_cons.mpr ⟨fe_RX8_233, List.forall_mem_cons.mpr ⟨fe_RX8_277, List.forall_mem_cons.mpr ⟨fe_RX8_280, List.forall_mem_cons.mpr ⟨fe_RX8_289, List.forall_mem_cons.mpr ⟨fe_RX8_298, List.forall_mem_cons.mpr ⟨fe_RX8_301, List.forall_mem_cons.mpr ⟨fe_RX8_311, fun _ h => absurd h List.not_mem_nil⟩⟩⟩⟩⟩⟩⟩⟩⟩⟩⟩⟩⟩⟩⟩⟩⟩⟩⟩⟩⟩⟩⟩⟩⟩⟩⟩⟩⟩⟩⟩⟩⟩⟩⟩⟩⟩⟩⟩⟩⟩⟩⟩⟩⟩⟩⟩
def fl_RJ5 : List (Nat × Nat × Nat × Nat) := [(15, 1, 0, 2), (22, 1, 1, 3), (73, 1, 2, 1), (79, 1, 3, 0)]
theorem fe_RJ5_15 : mFldE RJ5 (15, 1, 0, 2) := ⟨RJ4, TJ4, 4, tyJ4, rfl, by decide, mIn 296 (by decide +kernel) rfl, wu_RJ4, tyJ4_ok, nmJ4, Or.inl rfl, (fun h => by cases h), (fun h => by cases h), (fun h => by cases h)⟩
theorem fe_RJ5_22 : mFldE RJ5 (22, 1, 1, 3) := ⟨RJ4, TJ4, 4, tyJ4, rfl, by decide, mIn 297 (by decide +kernel) rfl, wu_RJ4, tyJ4_ok, nmJ4, Or.inr rfl, (fun h => by cases h), (fun h => by cases h), fun _ => rfl⟩
theorem fe_RJ5_73 : mFldE RJ5 (73, 1, 2, 1) := ⟨RJ4, TJ4, 4, tyJ4, rfl, by decide, mIn 298 (by decide +kernel) rfl, wu_RJ4, tyJ4_ok, nmJ4, Or.inr rfl, (fun h => by cases h), fun _ => rfl, (fun h => by cases h)⟩
theorem fe_RJ5_79 : mFldE RJ5 (79, 1, 3, 0) := ⟨RJ4, TJ4, 4, tyJ4, rfl, by decide, mIn 300 (by decide +kernel) rfl, wu_RJ4, tyJ4_ok, nmJ4, Or.inr rfl, fun _ => rfl, (fun h => by cases h), (fun h => by cases h)⟩
theorem fk_RJ5 : ∀ e ∈ fl_RJ5, mFldE RJ5 e := List.forall_mem_cons.mpr ⟨fe_RJ5_15, List.forall_mem_cons.mpr ⟨fe_RJ5_22, List.forall_mem_cons.mpr ⟨fe_RJ5_73, List.forall_mem_cons.mpr ⟨fe_RJ5_79, fun _ h => absurd h List.not_mem_nil⟩⟩⟩⟩
def fl_RJ0 : List (Nat × Nat × Nat × Nat) := [(9, 0, 0, 2), (15, 0, 1, 2), (1048, 1, 2, 1)]
theorem fe_RJ0_9 : mFldE RJ0 (9, 0, 0, 2) := ⟨RJ0, TJ0, 4, tyJ0, rfl, by decide, mIn 1407 (by decide +kernel) rfl, wu_RJ0, tyJ0_ok, nmJ0, Or.inl rfl, (fun h => by cases h), (fun h => by cases h), (fun h => by cases h)⟩
theorem fe_RJ0_15 : mFldE RJ0 (15, 0, 1, 2) := ⟨RJ0, TJ0, 4, tyJ0, rfl, by decide, mIn 1408 (by decide +kernel) rfl, wu_RJ0, tyJ0_ok, nmJ0, Or.inl rfl, (fun h => by cases h), (fun h => by cases h), (fun h => by cases h)⟩
theorem fe_RJ0_1048 : mFldE RJ0 (1048, 1, 2, 1) := ⟨RJ4, TJ4, 4, tyJ4, rfl, by decide, mIn 299 (by decide +kernel) rfl, wu_RJ4, tyJ4_ok, nmJ4, Or.inr rfl, (fun h => by cases h), fun _ => rfl, (fun h => by cases h)⟩
theorem fk_RJ0 : ∀ e ∈ fl_RJ0, mFldE RJ0 e := List.forall_mem_cons.mpr ⟨fe_RJ0_9, List.forall_mem_cons.mpr ⟨fe_RJ0_15, List.forall_mem_cons.mpr ⟨fe_RJ0_1048, fun _ h => absurd h List.not_mem_nil⟩⟩⟩
