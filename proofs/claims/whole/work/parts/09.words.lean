/-! the tables words of each method, link and throw, by their places -/
theorem qm {w : Cond} (i : Nat) (h : lw_tbl[i]? = some w) (hg : goodWord w = true) : w ∈ qAW := List.mem_filter.mpr ⟨List.mem_of_getElem? h, hg⟩
theorem in_X0 : ∀ w ∈ u_ws RX0 TX0 4, w ∈ qAW := by
  intro w hw
  have h : u_ws RX0 TX0 4 = [76, 78, 80, 82].filterMap (fun i => lw_tbl[i]?) := by decide +kernel
  have h2 : (u_ws RX0 TX0 4).all goodWord = true := by decide +kernel
  have h3 := List.all_eq_true.mp h2 w hw
  rw [h] at hw
  obtain ⟨i, -, hi⟩ := List.mem_filterMap.mp hw
  exact List.mem_filter.mpr ⟨List.mem_of_getElem? hi, h3⟩
theorem in_X1 : ∀ w ∈ u_ws RX1 TX1 5, w ∈ qAW := by
  intro w hw
  have h : u_ws RX1 TX1 5 = [159, 161, 163, 165, 167].filterMap (fun i => lw_tbl[i]?) := by decide +kernel
  have h2 : (u_ws RX1 TX1 5).all goodWord = true := by decide +kernel
  have h3 := List.all_eq_true.mp h2 w hw
  rw [h] at hw
  obtain ⟨i, -, hi⟩ := List.mem_filterMap.mp hw
  exact List.mem_filter.mpr ⟨List.mem_of_getElem? hi, h3⟩
theorem in_X2 : ∀ w ∈ u_ws RX2 TX2 2, w ∈ qAW := by
  intro w hw
  have h : u_ws RX2 TX2 2 = [129, 131].filterMap (fun i => lw_tbl[i]?) := by decide +kernel
  have h2 : (u_ws RX2 TX2 2).all goodWord = true := by decide +kernel
  have h3 := List.all_eq_true.mp h2 w hw
  rw [h] at hw
  obtain ⟨i, -, hi⟩ := List.mem_filterMap.mp hw
  exact List.mem_filter.mpr ⟨List.mem_of_getElem? hi, h3⟩
theorem in_X3 : ∀ w ∈ u_ws RX3 TX3 4, w ∈ qAW := by
  intro w hw
  have h : u_ws RX3 TX3 4 = [139, 141, 143, 145].filterMap (fun i => lw_tbl[i]?) := by decide +kernel
  have h2 : (u_ws RX3 TX3 4).all goodWord = true := by decide +kernel
  have h3 := List.all_eq_true.mp h2 w hw
  rw [h] at hw
  obtain ⟨i, -, hi⟩ := List.mem_filterMap.mp hw
  exact List.mem_filter.mpr ⟨List.mem_of_getElem? hi, h3⟩
theorem in_X4 : ∀ w ∈ u_ws RX4 TX4 7, w ∈ qAW := by
  intro w hw
  have h : u_ws RX4 TX4 7 = [100, 102, 104, 106, 108, 110, 112].filterMap (fun i => lw_tbl[i]?) := by decide +kernel
  have h2 : (u_ws RX4 TX4 7).all goodWord = true := by decide +kernel
  have h3 := List.all_eq_true.mp h2 w hw
  rw [h] at hw
  obtain ⟨i, -, hi⟩ := List.mem_filterMap.mp hw
  exact List.mem_filter.mpr ⟨List.mem_of_getElem? hi, h3⟩
theorem in_X5 : ∀ w ∈ u_ws RX5 TX5 7, w ∈ qAW := by
  intro w hw
  have h : u_ws RX5 TX5 7 = [177, 179, 181, 183, 185, 187, 189].filterMap (fun i => lw_tbl[i]?) := by decide +kernel
  have h2 : (u_ws RX5 TX5 7).all goodWord = true := by decide +kernel
  have h3 := List.all_eq_true.mp h2 w hw
  rw [h] at hw
  obtain ⟨i, -, hi⟩ := List.mem_filterMap.mp hw
  exact List.mem_filter.mpr ⟨List.mem_of_getElem? hi, h3⟩
theorem in_X6 : ∀ w ∈ u_ws RX6 TX6 19, w ∈ qAW := by
  intro w hw
  have h : u_ws RX6 TX6 19 = [889, 891, 893, 895, 897, 899, 901, 903, 905, 907, 909, 911, 913, 915, 917, 919, 921, 923, 925].filterMap (fun i => lw_tbl[i]?) := by decide +kernel
  have h2 : (u_ws RX6 TX6 19).all goodWord = true := by decide +kernel
  have h3 := List.all_eq_true.mp h2 w hw
  rw [h] at hw
  obtain ⟨i, -, hi⟩ := List.mem_filterMap.mp hw
  exact List.mem_filter.mpr ⟨List.mem_of_getElem? hi, h3⟩
theorem mX0_come : qMth yX0_come (.code yX0_come cX0_come 1 (some .int)) cX0_come 1 (some .int) 0 := ⟨rfl, qm 392 (by decide +kernel) rfl, qm 390 (by decide +kernel) rfl, qm 391 (by decide +kernel) rfl, qm 43 (by decide +kernel) rfl, (by decide +kernel), (by decide +kernel)⟩
theorem mX0_register : qMth yX0_register (.code yX0_register cX0_register 3 (some .int)) cX0_register 3 (some .int) 1 := ⟨rfl, qm 397 (by decide +kernel) rfl, qm 395 (by decide +kernel) rfl, qm 396 (by decide +kernel) rfl, qm 43 (by decide +kernel) rfl, (by decide +kernel), (by decide +kernel)⟩
theorem mX0_weightOf : qMth yX0_weightOf (.code yX0_weightOf cX0_weightOf 2 (some .int)) cX0_weightOf 2 (some .int) 1 := ⟨rfl, qm 372 (by decide +kernel) rfl, qm 370 (by decide +kernel) rfl, qm 371 (by decide +kernel) rfl, qm 43 (by decide +kernel) rfl, (by decide +kernel), (by decide +kernel)⟩
theorem mX0_holdKind : qMth yX0_holdKind (.code yX0_holdKind cX0_holdKind 2 (some .char)) cX0_holdKind 2 (some .char) 1 := ⟨rfl, qm 533 (by decide +kernel) rfl, qm 531 (by decide +kernel) rfl, qm 532 (by decide +kernel) rfl, qm 43 (by decide +kernel) rfl, (by decide +kernel), (by decide +kernel)⟩
theorem mX0_holdEnd : qMth yX0_holdEnd (.code yX0_holdEnd cX0_holdEnd 2 (some .int)) cX0_holdEnd 2 (some .int) 1 := ⟨rfl, qm 537 (by decide +kernel) rfl, qm 535 (by decide +kernel) rfl, qm 536 (by decide +kernel) rfl, qm 43 (by decide +kernel) rfl, (by decide +kernel), (by decide +kernel)⟩
theorem mX0_isHeld : qMth yX0_isHeld (.code yX0_isHeld cX0_isHeld 2 (some .boolean)) cX0_isHeld 2 (some .boolean) 1 := ⟨rfl, qm 529 (by decide +kernel) rfl, qm 527 (by decide +kernel) rfl, qm 528 (by decide +kernel) rfl, qm 43 (by decide +kernel) rfl, (by decide +kernel), (by decide +kernel)⟩
theorem mX0_isPinned : qMth yX0_isPinned (.code yX0_isPinned cX0_isPinned 2 (some .boolean)) cX0_isPinned 2 (some .boolean) 1 := ⟨rfl, qm 582 (by decide +kernel) rfl, qm 580 (by decide +kernel) rfl, qm 581 (by decide +kernel) rfl, qm 43 (by decide +kernel) rfl, (by decide +kernel), (by decide +kernel)⟩
theorem mX0_isHeldIn : qMth yX0_isHeldIn (.code yX0_isHeldIn cX0_isHeldIn 3 (some .boolean)) cX0_isHeldIn 3 (some .boolean) 2 := ⟨rfl, qm 525 (by decide +kernel) rfl, qm 523 (by decide +kernel) rfl, qm 524 (by decide +kernel) rfl, qm 43 (by decide +kernel) rfl, (by decide +kernel), (by decide +kernel)⟩
theorem mX0_putHold : qMth yX0_putHold (.code yX0_putHold cX0_putHold 4 none) cX0_putHold 4 none 3 := ⟨rfl, qm 405 (by decide +kernel) rfl, qm 403 (by decide +kernel) rfl, qm 404 (by decide +kernel) rfl, qm 43 (by decide +kernel) rfl, (by decide +kernel), (by decide +kernel)⟩
theorem mX0_endHold : qMth yX0_endHold (.code yX0_endHold cX0_endHold 2 none) cX0_endHold 2 none 1 := ⟨rfl, qm 401 (by decide +kernel) rfl, qm 399 (by decide +kernel) rfl, qm 400 (by decide +kernel) rfl, qm 43 (by decide +kernel) rfl, (by decide +kernel), (by decide +kernel)⟩
theorem mX0_endHoldsOf : qMth yX0_endHoldsOf (.code yX0_endHoldsOf cX0_endHoldsOf 3 none) cX0_endHoldsOf 3 none 1 := ⟨rfl, qm 846 (by decide +kernel) rfl, qm 844 (by decide +kernel) rfl, qm 845 (by decide +kernel) rfl, qm 43 (by decide +kernel) rfl, (by decide +kernel), (by decide +kernel)⟩
theorem mX1_count : qMth yX1_count (.code yX1_count cX1_count 1 (some .int)) cX1_count 1 (some .int) 0 := ⟨rfl, qm 772 (by decide +kernel) rfl, qm 770 (by decide +kernel) rfl, qm 771 (by decide +kernel) rfl, qm 47 (by decide +kernel) rfl, (by decide +kernel), (by decide +kernel)⟩
theorem mX1_register : qMth yX1_register (.code yX1_register cX1_register 5 (some .int)) cX1_register 5 (some .int) 3 := ⟨rfl, qm 777 (by decide +kernel) rfl, qm 775 (by decide +kernel) rfl, qm 776 (by decide +kernel) rfl, qm 47 (by decide +kernel) rfl, (by decide +kernel), (by decide +kernel)⟩
theorem mX1_has : qMth yX1_has (.code yX1_has cX1_has 2 (some .boolean)) cX1_has 2 (some .boolean) 1 := ⟨rfl, qm 521 (by decide +kernel) rfl, qm 520 (by decide +kernel) rfl, qm 4 (by decide +kernel) rfl, qm 47 (by decide +kernel) rfl, (by decide +kernel), (by decide +kernel)⟩
theorem mX1_boxOf : qMth yX1_boxOf (.code yX1_boxOf cX1_boxOf 2 (some .int)) cX1_boxOf 2 (some .int) 1 := ⟨rfl, qm 854 (by decide +kernel) rfl, qm 852 (by decide +kernel) rfl, qm 853 (by decide +kernel) rfl, qm 47 (by decide +kernel) rfl, (by decide +kernel), (by decide +kernel)⟩
theorem mX1_hourOf : qMth yX1_hourOf (.code yX1_hourOf cX1_hourOf 2 (some .int)) cX1_hourOf 2 (some .int) 1 := ⟨rfl, qm 517 (by decide +kernel) rfl, qm 515 (by decide +kernel) rfl, qm 516 (by decide +kernel) rfl, qm 47 (by decide +kernel) rfl, (by decide +kernel), (by decide +kernel)⟩
theorem mX1_state : qMth yX1_state (.code yX1_state cX1_state 2 (some .char)) cX1_state 2 (some .char) 1 := ⟨rfl, qm 793 (by decide +kernel) rfl, qm 791 (by decide +kernel) rfl, qm 792 (by decide +kernel) rfl, qm 47 (by decide +kernel) rfl, (by decide +kernel), (by decide +kernel)⟩
theorem mX1_turn : qMth yX1_turn (.code yX1_turn cX1_turn 3 none) cX1_turn 3 none 2 := ⟨rfl, qm 541 (by decide +kernel) rfl, qm 539 (by decide +kernel) rfl, qm 540 (by decide +kernel) rfl, qm 47 (by decide +kernel) rfl, (by decide +kernel), (by decide +kernel)⟩
theorem mX1_bookedFor : qMth yX1_bookedFor (.code yX1_bookedFor cX1_bookedFor 3 (some .int)) cX1_bookedFor 3 (some .int) 1 := ⟨rfl, qm 513 (by decide +kernel) rfl, qm 511 (by decide +kernel) rfl, qm 512 (by decide +kernel) rfl, qm 47 (by decide +kernel) rfl, (by decide +kernel), (by decide +kernel)⟩
theorem mX1_bookedAt : qMth yX1_bookedAt (.code yX1_bookedAt cX1_bookedAt 4 (some .int)) cX1_bookedAt 4 (some .int) 2 := ⟨rfl, qm 767 (by decide +kernel) rfl, qm 765 (by decide +kernel) rfl, qm 766 (by decide +kernel) rfl, qm 47 (by decide +kernel) rfl, (by decide +kernel), (by decide +kernel)⟩
theorem mX1_hasFreeLane : qMth yX1_hasFreeLane (.code yX1_hasFreeLane cX1_hasFreeLane 3 (some .boolean)) cX1_hasFreeLane 3 (some .boolean) 1 := ⟨rfl, qm 832 (by decide +kernel) rfl, qm 830 (by decide +kernel) rfl, qm 831 (by decide +kernel) rfl, qm 47 (by decide +kernel) rfl, (by decide +kernel), (by decide +kernel)⟩
theorem mX1_countIn : qMth yX1_countIn (.code yX1_countIn cX1_countIn 4 (some .int)) cX1_countIn 4 (some .int) 1 := ⟨rfl, qm 798 (by decide +kernel) rfl, qm 796 (by decide +kernel) rfl, qm 797 (by decide +kernel) rfl, qm 47 (by decide +kernel) rfl, (by decide +kernel), (by decide +kernel)⟩
theorem mX2_isEmpty : qMth yX2_isEmpty (.code yX2_isEmpty cX2_isEmpty 1 (some .boolean)) cX2_isEmpty 1 (some .boolean) 0 := ⟨rfl, qm 646 (by decide +kernel) rfl, qm 644 (by decide +kernel) rfl, qm 645 (by decide +kernel) rfl, qm 46 (by decide +kernel) rfl, (by decide +kernel), (by decide +kernel)⟩
theorem mX2_clear : qMth yX2_clear (.code yX2_clear cX2_clear 1 none) cX2_clear 1 none 0 := ⟨rfl, qm 635 (by decide +kernel) rfl, qm 633 (by decide +kernel) rfl, qm 634 (by decide +kernel) rfl, qm 46 (by decide +kernel) rfl, (by decide +kernel), (by decide +kernel)⟩
theorem mX2_add : qMth yX2_add (.code yX2_add cX2_add 4 none) cX2_add 4 none 1 := ⟨rfl, qm 642 (by decide +kernel) rfl, qm 640 (by decide +kernel) rfl, qm 641 (by decide +kernel) rfl, qm 46 (by decide +kernel) rfl, (by decide +kernel), (by decide +kernel)⟩
theorem mX2_takeFirst : qMth yX2_takeFirst (.code yX2_takeFirst cX2_takeFirst 3 (some .long)) cX2_takeFirst 3 (some .long) 0 := ⟨rfl, qm 650 (by decide +kernel) rfl, qm 648 (by decide +kernel) rfl, qm 649 (by decide +kernel) rfl, qm 46 (by decide +kernel) rfl, (by decide +kernel), (by decide +kernel)⟩
theorem mX2_sinkFromTop : qMth yX2_sinkFromTop (.code yX2_sinkFromTop cX2_sinkFromTop 5 none) cX2_sinkFromTop 5 none 1 := ⟨rfl, qm 654 (by decide +kernel) rfl, qm 653 (by decide +kernel) rfl, qm 7 (by decide +kernel) rfl, qm 46 (by decide +kernel) rfl, (by decide +kernel), (by decide +kernel)⟩
theorem mX3_find : qMth yX3_find (.code yX3_find cX3_find 6 (some .boolean)) cX3_find 6 (some .boolean) 1 := ⟨rfl, qm 630 (by decide +kernel) rfl, qm 628 (by decide +kernel) rfl, qm 629 (by decide +kernel) rfl, qm 45 (by decide +kernel) rfl, (by decide +kernel), (by decide +kernel)⟩
theorem mX3_length : qMth yX3_length (.code yX3_length cX3_length 1 (some .int)) cX3_length 1 (some .int) 0 := ⟨rfl, qm 697 (by decide +kernel) rfl, qm 695 (by decide +kernel) rfl, qm 696 (by decide +kernel) rfl, qm 45 (by decide +kernel) rfl, (by decide +kernel), (by decide +kernel)⟩
theorem mX3_boxMoved : qMth yX3_boxMoved (.code yX3_boxMoved cX3_boxMoved 2 (some .int)) cX3_boxMoved 2 (some .int) 1 := ⟨rfl, qm 727 (by decide +kernel) rfl, qm 725 (by decide +kernel) rfl, qm 726 (by decide +kernel) rfl, qm 45 (by decide +kernel) rfl, (by decide +kernel), (by decide +kernel)⟩
theorem mX3_stackReached : qMth yX3_stackReached (.code yX3_stackReached cX3_stackReached 2 (some .int)) cX3_stackReached 2 (some .int) 1 := ⟨rfl, qm 738 (by decide +kernel) rfl, qm 736 (by decide +kernel) rfl, qm 737 (by decide +kernel) rfl, qm 45 (by decide +kernel) rfl, (by decide +kernel), (by decide +kernel)⟩
theorem mX3_lengthByTrying : qMth yX3_lengthByTrying (.code yX3_lengthByTrying cX3_lengthByTrying 2 (some .int)) cX3_lengthByTrying 2 (some .int) 1 := ⟨rfl, qm 708 (by decide +kernel) rfl, qm 706 (by decide +kernel) rfl, qm 707 (by decide +kernel) rfl, qm 45 (by decide +kernel) rfl, (by decide +kernel), (by decide +kernel)⟩
theorem mX3_fewestMoves : qMts yX3_fewestMoves (.code yX3_fewestMoves cX3_fewestMoves 9 (some .int)) cX3_fewestMoves 9 (some .int) 3 := ⟨rfl, qm 711 (by decide +kernel) rfl, qm 710 (by decide +kernel) rfl, qm 45 (by decide +kernel) rfl, (by decide +kernel), (by decide +kernel)⟩
theorem mX3_layOut : qMth yX3_layOut (.code yX3_layOut cX3_layOut 5 none) cX3_layOut 5 none 1 := ⟨rfl, qm 664 (by decide +kernel) rfl, qm 663 (by decide +kernel) rfl, qm 8 (by decide +kernel) rfl, qm 45 (by decide +kernel) rfl, (by decide +kernel), (by decide +kernel)⟩
theorem mX3_addNextMoves : qMth yX3_addNextMoves (.code yX3_addNextMoves cX3_addNextMoves 10 none) cX3_addNextMoves 10 none 3 := ⟨rfl, qm 683 (by decide +kernel) rfl, qm 682 (by decide +kernel) rfl, qm 9 (by decide +kernel) rfl, qm 45 (by decide +kernel) rfl, (by decide +kernel), (by decide +kernel)⟩
theorem mX3_extraNeed : qMts yX3_extraNeed (.code yX3_extraNeed cX3_extraNeed 3 (some .int)) cX3_extraNeed 3 (some .int) 3 := ⟨rfl, qm 688 (by decide +kernel) rfl, qm 687 (by decide +kernel) rfl, qm 45 (by decide +kernel) rfl, (by decide +kernel), (by decide +kernel)⟩
theorem mX3_begunWith : qMts yX3_begunWith (.code yX3_begunWith cX3_begunWith 1 (some .long)) cX3_begunWith 1 (some .long) 1 := ⟨rfl, qm 638 (by decide +kernel) rfl, qm 637 (by decide +kernel) rfl, qm 45 (by decide +kernel) rfl, (by decide +kernel), (by decide +kernel)⟩
theorem mX3_goneOn : qMts yX3_goneOn (.code yX3_goneOn cX3_goneOn 10 (some .long)) cX3_goneOn 10 (some .long) 4 := ⟨rfl, qm 692 (by decide +kernel) rfl, qm 691 (by decide +kernel) rfl, qm 45 (by decide +kernel) rfl, (by decide +kernel), (by decide +kernel)⟩
theorem mX3_needOf : qMts yX3_needOf (.code yX3_needOf cX3_needOf 2 (some .int)) cX3_needOf 2 (some .int) 1 := ⟨rfl, qm 657 (by decide +kernel) rfl, qm 656 (by decide +kernel) rfl, qm 45 (by decide +kernel) rfl, (by decide +kernel), (by decide +kernel)⟩
theorem mX3_lengthOf : qMts yX3_lengthOf (.code yX3_lengthOf cX3_lengthOf 2 (some .int)) cX3_lengthOf 2 (some .int) 1 := ⟨rfl, qm 660 (by decide +kernel) rfl, qm 659 (by decide +kernel) rfl, qm 45 (by decide +kernel) rfl, (by decide +kernel), (by decide +kernel)⟩
theorem mX3_moveOf : qMts yX3_moveOf (.code yX3_moveOf cX3_moveOf 3 (some .int)) cX3_moveOf 3 (some .int) 2 := ⟨rfl, qm 674 (by decide +kernel) rfl, qm 673 (by decide +kernel) rfl, qm 45 (by decide +kernel) rfl, (by decide +kernel), (by decide +kernel)⟩
theorem mX3_shiftOf : qMts yX3_shiftOf (.code yX3_shiftOf cX3_shiftOf 1 (some .int)) cX3_shiftOf 1 (some .int) 1 := ⟨rfl, qm 677 (by decide +kernel) rfl, qm 676 (by decide +kernel) rfl, qm 45 (by decide +kernel) rfl, (by decide +kernel), (by decide +kernel)⟩
theorem mX4_copyFrom : qMth yX4_copyFrom (.code yX4_copyFrom cX4_copyFrom 2 none) cX4_copyFrom 2 none 1 := ⟨rfl, qm 668 (by decide +kernel) rfl, qm 666 (by decide +kernel) rfl, qm 667 (by decide +kernel) rfl, qm 44 (by decide +kernel) rfl, (by decide +kernel), (by decide +kernel)⟩
theorem mX4_openStack : qMth yX4_openStack (.code yX4_openStack cX4_openStack 3 (some .int)) cX4_openStack 3 (some .int) 1 := ⟨rfl, qm 322 (by decide +kernel) rfl, qm 320 (by decide +kernel) rfl, qm 321 (by decide +kernel) rfl, qm 44 (by decide +kernel) rfl, (by decide +kernel), (by decide +kernel)⟩
theorem mX4_stackCount : qMth yX4_stackCount (.code yX4_stackCount cX4_stackCount 1 (some .int)) cX4_stackCount 1 (some .int) 0 := ⟨rfl, qm 302 (by decide +kernel) rfl, qm 300 (by decide +kernel) rfl, qm 301 (by decide +kernel) rfl, qm 44 (by decide +kernel) rfl, (by decide +kernel), (by decide +kernel)⟩
theorem mX4_boxCount : qMth yX4_boxCount (.code yX4_boxCount cX4_boxCount 1 (some .int)) cX4_boxCount 1 (some .int) 0 := ⟨rfl, qm 199 (by decide +kernel) rfl, qm 197 (by decide +kernel) rfl, qm 198 (by decide +kernel) rfl, qm 44 (by decide +kernel) rfl, (by decide +kernel), (by decide +kernel)⟩
theorem mX4_hasStack : qMth yX4_hasStack (.code yX4_hasStack cX4_hasStack 2 (some .boolean)) cX4_hasStack 2 (some .boolean) 1 := ⟨rfl, qm 339 (by decide +kernel) rfl, qm 337 (by decide +kernel) rfl, qm 338 (by decide +kernel) rfl, qm 44 (by decide +kernel) rfl, (by decide +kernel), (by decide +kernel)⟩
theorem mX4_heightOf : qMth yX4_heightOf (.code yX4_heightOf cX4_heightOf 2 (some .int)) cX4_heightOf 2 (some .int) 1 := ⟨rfl, qm 446 (by decide +kernel) rfl, qm 444 (by decide +kernel) rfl, qm 445 (by decide +kernel) rfl, qm 44 (by decide +kernel) rfl, (by decide +kernel), (by decide +kernel)⟩
theorem mX4_isFull : qMth yX4_isFull (.code yX4_isFull cX4_isFull 2 (some .boolean)) cX4_isFull 2 (some .boolean) 1 := ⟨rfl, qm 360 (by decide +kernel) rfl, qm 358 (by decide +kernel) rfl, qm 359 (by decide +kernel) rfl, qm 44 (by decide +kernel) rfl, (by decide +kernel), (by decide +kernel)⟩
theorem mX4_bears : qMth yX4_bears (.code yX4_bears cX4_bears 4 (some .boolean)) cX4_bears 4 (some .boolean) 2 := ⟨rfl, qm 364 (by decide +kernel) rfl, qm 362 (by decide +kernel) rfl, qm 363 (by decide +kernel) rfl, qm 44 (by decide +kernel) rfl, (by decide +kernel), (by decide +kernel)⟩
theorem mX4_stackWith : qMth yX4_stackWith (.code yX4_stackWith cX4_stackWith 2 (some .int)) cX4_stackWith 2 (some .int) 1 := ⟨rfl, qm 207 (by decide +kernel) rfl, qm 205 (by decide +kernel) rfl, qm 206 (by decide +kernel) rfl, qm 44 (by decide +kernel) rfl, (by decide +kernel), (by decide +kernel)⟩
theorem mX4_boxOn : qMth yX4_boxOn (.code yX4_boxOn cX4_boxOn 3 (some .int)) cX4_boxOn 3 (some .int) 2 := ⟨rfl, qm 450 (by decide +kernel) rfl, qm 448 (by decide +kernel) rfl, qm 449 (by decide +kernel) rfl, qm 44 (by decide +kernel) rfl, (by decide +kernel), (by decide +kernel)⟩
theorem mX4_topOf : qMth yX4_topOf (.code yX4_topOf cX4_topOf 2 (some .int)) cX4_topOf 2 (some .int) 1 := ⟨rfl, qm 368 (by decide +kernel) rfl, qm 366 (by decide +kernel) rfl, qm 367 (by decide +kernel) rfl, qm 44 (by decide +kernel) rfl, (by decide +kernel), (by decide +kernel)⟩
theorem mX4_boxesUnder : qMth yX4_boxesUnder (.code yX4_boxesUnder cX4_boxesUnder 4 (some .int)) cX4_boxesUnder 4 (some .int) 1 := ⟨rfl, qm 441 (by decide +kernel) rfl, qm 439 (by decide +kernel) rfl, qm 440 (by decide +kernel) rfl, qm 44 (by decide +kernel) rfl, (by decide +kernel), (by decide +kernel)⟩
theorem mX4_boxesOver : qMth yX4_boxesOver (.code yX4_boxesOver cX4_boxesOver 3 (some .int)) cX4_boxesOver 3 (some .int) 1 := ⟨rfl, qm 461 (by decide +kernel) rfl, qm 459 (by decide +kernel) rfl, qm 460 (by decide +kernel) rfl, qm 44 (by decide +kernel) rfl, (by decide +kernel), (by decide +kernel)⟩
theorem mX4_pinnedOver : qMth yX4_pinnedOver (.code yX4_pinnedOver cX4_pinnedOver 5 (some .int)) cX4_pinnedOver 5 (some .int) 1 := ⟨rfl, qm 578 (by decide +kernel) rfl, qm 576 (by decide +kernel) rfl, qm 577 (by decide +kernel) rfl, qm 44 (by decide +kernel) rfl, (by decide +kernel), (by decide +kernel)⟩
theorem mX4_reasonAgainst : qMth yX4_reasonAgainst (.code yX4_reasonAgainst cX4_reasonAgainst 4 (some .char)) cX4_reasonAgainst 4 (some .char) 2 := ⟨rfl, qm 593 (by decide +kernel) rfl, qm 591 (by decide +kernel) rfl, qm 592 (by decide +kernel) rfl, qm 44 (by decide +kernel) rfl, (by decide +kernel), (by decide +kernel)⟩
theorem mX4_put : qMth yX4_put (.code yX4_put cX4_put 3 none) cX4_put 3 none 2 := ⟨rfl, qm 409 (by decide +kernel) rfl, qm 407 (by decide +kernel) rfl, qm 408 (by decide +kernel) rfl, qm 44 (by decide +kernel) rfl, (by decide +kernel), (by decide +kernel)⟩
theorem mX4_take : qMth yX4_take (.code yX4_take cX4_take 3 none) cX4_take 3 none 1 := ⟨rfl, qm 614 (by decide +kernel) rfl, qm 612 (by decide +kernel) rfl, qm 613 (by decide +kernel) rfl, qm 44 (by decide +kernel) rfl, (by decide +kernel), (by decide +kernel)⟩
theorem mX4_shift : qMth yX4_shift (.code yX4_shift cX4_shift 4 none) cX4_shift 4 none 2 := ⟨rfl, qm 610 (by decide +kernel) rfl, qm 608 (by decide +kernel) rfl, qm 609 (by decide +kernel) rfl, qm 44 (by decide +kernel) rfl, (by decide +kernel), (by decide +kernel)⟩
theorem mX5_addStack : qMth yX5_addStack (.code yX5_addStack cX5_addStack 2 (some .int)) cX5_addStack 2 (some .int) 1 := ⟨rfl, qm 228 (by decide +kernel) rfl, qm 226 (by decide +kernel) rfl, qm 227 (by decide +kernel) rfl, qm 42 (by decide +kernel) rfl, (by decide +kernel), (by decide +kernel)⟩
theorem mX5_addBox : qMth yX5_addBox (.code yX5_addBox cX5_addBox 4 (some .int)) cX5_addBox 4 (some .int) 2 := ⟨rfl, qm 331 (by decide +kernel) rfl, qm 329 (by decide +kernel) rfl, qm 330 (by decide +kernel) rfl, qm 42 (by decide +kernel) rfl, (by decide +kernel), (by decide +kernel)⟩
theorem mX5_boxes : qMth yX5_boxes (.code yX5_boxes cX5_boxes 1 (some .int)) cX5_boxes 1 (some .int) 0 := ⟨rfl, qm 195 (by decide +kernel) rfl, qm 193 (by decide +kernel) rfl, qm 194 (by decide +kernel) rfl, qm 42 (by decide +kernel) rfl, (by decide +kernel), (by decide +kernel)⟩
theorem mX5_isInYard : qMth yX5_isInYard (.code yX5_isInYard cX5_isInYard 2 (some .boolean)) cX5_isInYard 2 (some .boolean) 1 := ⟨rfl, qm 203 (by decide +kernel) rfl, qm 201 (by decide +kernel) rfl, qm 202 (by decide +kernel) rfl, qm 42 (by decide +kernel) rfl, (by decide +kernel), (by decide +kernel)⟩
theorem mX5_weight : qMth yX5_weight (.code yX5_weight cX5_weight 2 (some .int)) cX5_weight 2 (some .int) 1 := ⟨rfl, qm 417 (by decide +kernel) rfl, qm 415 (by decide +kernel) rfl, qm 416 (by decide +kernel) rfl, qm 42 (by decide +kernel) rfl, (by decide +kernel), (by decide +kernel)⟩
theorem mX5_stackOf : qMth yX5_stackOf (.code yX5_stackOf cX5_stackOf 2 (some .int)) cX5_stackOf 2 (some .int) 1 := ⟨rfl, qm 430 (by decide +kernel) rfl, qm 428 (by decide +kernel) rfl, qm 429 (by decide +kernel) rfl, qm 42 (by decide +kernel) rfl, (by decide +kernel), (by decide +kernel)⟩
theorem mX5_level : qMth yX5_level (.code yX5_level cX5_level 2 (some .int)) cX5_level 2 (some .int) 1 := ⟨rfl, qm 437 (by decide +kernel) rfl, qm 435 (by decide +kernel) rfl, qm 436 (by decide +kernel) rfl, qm 42 (by decide +kernel) rfl, (by decide +kernel), (by decide +kernel)⟩
theorem mX5_above : qMth yX5_above (.code yX5_above cX5_above 2 (some .int)) cX5_above 2 (some .int) 1 := ⟨rfl, qm 457 (by decide +kernel) rfl, qm 455 (by decide +kernel) rfl, qm 456 (by decide +kernel) rfl, qm 42 (by decide +kernel) rfl, (by decide +kernel), (by decide +kernel)⟩
theorem mX5_height : qMth yX5_height (.code yX5_height cX5_height 2 (some .int)) cX5_height 2 (some .int) 1 := ⟨rfl, qm 469 (by decide +kernel) rfl, qm 467 (by decide +kernel) rfl, qm 468 (by decide +kernel) rfl, qm 42 (by decide +kernel) rfl, (by decide +kernel), (by decide +kernel)⟩
theorem mX5_boxAt : qMth yX5_boxAt (.code yX5_boxAt cX5_boxAt 4 (some .int)) cX5_boxAt 4 (some .int) 2 := ⟨rfl, qm 478 (by decide +kernel) rfl, qm 476 (by decide +kernel) rfl, qm 477 (by decide +kernel) rfl, qm 42 (by decide +kernel) rfl, (by decide +kernel), (by decide +kernel)⟩
theorem mX5_hold : qMth yX5_hold (.code yX5_hold cX5_hold 4 (some .int)) cX5_hold 4 (some .int) 3 := ⟨rfl, qm 502 (by decide +kernel) rfl, qm 500 (by decide +kernel) rfl, qm 501 (by decide +kernel) rfl, qm 42 (by decide +kernel) rfl, (by decide +kernel), (by decide +kernel)⟩
theorem mX5_release : qMth yX5_release (.code yX5_release cX5_release 3 (some .int)) cX5_release 3 (some .int) 1 := ⟨rfl, qm 548 (by decide +kernel) rfl, qm 546 (by decide +kernel) rfl, qm 547 (by decide +kernel) rfl, qm 42 (by decide +kernel) rfl, (by decide +kernel), (by decide +kernel)⟩
theorem mX5_holdOf : qMth yX5_holdOf (.code yX5_holdOf cX5_holdOf 2 (some .char)) cX5_holdOf 2 (some .char) 1 := ⟨rfl, qm 559 (by decide +kernel) rfl, qm 557 (by decide +kernel) rfl, qm 558 (by decide +kernel) rfl, qm 42 (by decide +kernel) rfl, (by decide +kernel), (by decide +kernel)⟩
theorem mX5_heldUntil : qMth yX5_heldUntil (.code yX5_heldUntil cX5_heldUntil 2 (some .int)) cX5_heldUntil 2 (some .int) 1 := ⟨rfl, qm 567 (by decide +kernel) rfl, qm 565 (by decide +kernel) rfl, qm 566 (by decide +kernel) rfl, qm 42 (by decide +kernel) rfl, (by decide +kernel), (by decide +kernel)⟩
theorem mX5_pinnedAbove : qMth yX5_pinnedAbove (.code yX5_pinnedAbove cX5_pinnedAbove 2 (some .int)) cX5_pinnedAbove 2 (some .int) 1 := ⟨rfl, qm 574 (by decide +kernel) rfl, qm 572 (by decide +kernel) rfl, qm 573 (by decide +kernel) rfl, qm 42 (by decide +kernel) rfl, (by decide +kernel), (by decide +kernel)⟩
theorem mX5_why : qMth yX5_why (.code yX5_why cX5_why 3 (some .char)) cX5_why 3 (some .char) 2 := ⟨rfl, qm 589 (by decide +kernel) rfl, qm 587 (by decide +kernel) rfl, qm 588 (by decide +kernel) rfl, qm 42 (by decide +kernel) rfl, (by decide +kernel), (by decide +kernel)⟩
theorem mX5_move : qMth yX5_move (.code yX5_move cX5_move 3 (some .int)) cX5_move 3 (some .int) 2 := ⟨rfl, qm 601 (by decide +kernel) rfl, qm 599 (by decide +kernel) rfl, qm 600 (by decide +kernel) rfl, qm 42 (by decide +kernel) rfl, (by decide +kernel), (by decide +kernel)⟩
theorem mX5_planLength : qMth yX5_planLength (.code yX5_planLength cX5_planLength 2 (some .int)) cX5_planLength 2 (some .int) 1 := ⟨rfl, qm 622 (by decide +kernel) rfl, qm 620 (by decide +kernel) rfl, qm 621 (by decide +kernel) rfl, qm 42 (by decide +kernel) rfl, (by decide +kernel), (by decide +kernel)⟩
theorem mX5_planByTrying : qMth yX5_planByTrying (.code yX5_planByTrying cX5_planByTrying 3 (some .int)) cX5_planByTrying 3 (some .int) 1 := ⟨rfl, qm 704 (by decide +kernel) rfl, qm 702 (by decide +kernel) rfl, qm 703 (by decide +kernel) rfl, qm 42 (by decide +kernel) rfl, (by decide +kernel), (by decide +kernel)⟩
theorem mX5_planBox : qMth yX5_planBox (.code yX5_planBox cX5_planBox 3 (some .int)) cX5_planBox 3 (some .int) 2 := ⟨rfl, qm 718 (by decide +kernel) rfl, qm 716 (by decide +kernel) rfl, qm 717 (by decide +kernel) rfl, qm 42 (by decide +kernel) rfl, (by decide +kernel), (by decide +kernel)⟩
theorem mX5_planStack : qMth yX5_planStack (.code yX5_planStack cX5_planStack 3 (some .int)) cX5_planStack 3 (some .int) 2 := ⟨rfl, qm 734 (by decide +kernel) rfl, qm 732 (by decide +kernel) rfl, qm 733 (by decide +kernel) rfl, qm 42 (by decide +kernel) rfl, (by decide +kernel), (by decide +kernel)⟩
theorem mX5_dig : qMth yX5_dig (.code yX5_dig cX5_dig 2 (some .int)) cX5_dig 2 (some .int) 1 := ⟨rfl, qm 745 (by decide +kernel) rfl, qm 743 (by decide +kernel) rfl, qm 744 (by decide +kernel) rfl, qm 42 (by decide +kernel) rfl, (by decide +kernel), (by decide +kernel)⟩
theorem mX5_moves : qMth yX5_moves (.code yX5_moves cX5_moves 1 (some .int)) cX5_moves 1 (some .int) 0 := ⟨rfl, qm 211 (by decide +kernel) rfl, qm 209 (by decide +kernel) rfl, qm 210 (by decide +kernel) rfl, qm 42 (by decide +kernel) rfl, (by decide +kernel), (by decide +kernel)⟩
theorem mX5_book : qMth yX5_book (.code yX5_book cX5_book 4 (some .int)) cX5_book 4 (some .int) 3 := ⟨rfl, qm 756 (by decide +kernel) rfl, qm 754 (by decide +kernel) rfl, qm 755 (by decide +kernel) rfl, qm 42 (by decide +kernel) rfl, (by decide +kernel), (by decide +kernel)⟩
theorem mX5_cancel : qMth yX5_cancel (.code yX5_cancel cX5_cancel 2 (some .int)) cX5_cancel 2 (some .int) 1 := ⟨rfl, qm 784 (by decide +kernel) rfl, qm 782 (by decide +kernel) rfl, qm 783 (by decide +kernel) rfl, qm 42 (by decide +kernel) rfl, (by decide +kernel), (by decide +kernel)⟩
theorem mX5_stateOf : qMth yX5_stateOf (.code yX5_stateOf cX5_stateOf 2 (some .char)) cX5_stateOf 2 (some .char) 1 := ⟨rfl, qm 805 (by decide +kernel) rfl, qm 803 (by decide +kernel) rfl, qm 804 (by decide +kernel) rfl, qm 42 (by decide +kernel) rfl, (by decide +kernel), (by decide +kernel)⟩
theorem mX5_appointmentOf : qMth yX5_appointmentOf (.code yX5_appointmentOf cX5_appointmentOf 3 (some .int)) cX5_appointmentOf 3 (some .int) 1 := ⟨rfl, qm 812 (by decide +kernel) rfl, qm 810 (by decide +kernel) rfl, qm 811 (by decide +kernel) rfl, qm 42 (by decide +kernel) rfl, (by decide +kernel), (by decide +kernel)⟩
theorem mX5_inLane : qMth yX5_inLane (.code yX5_inLane cX5_inLane 3 (some .int)) cX5_inLane 3 (some .int) 2 := ⟨rfl, qm 820 (by decide +kernel) rfl, qm 818 (by decide +kernel) rfl, qm 819 (by decide +kernel) rfl, qm 42 (by decide +kernel) rfl, (by decide +kernel), (by decide +kernel)⟩
theorem mX5_firstHour : qMth yX5_firstHour (.code yX5_firstHour cX5_firstHour 3 (some .int)) cX5_firstHour 3 (some .int) 1 := ⟨rfl, qm 828 (by decide +kernel) rfl, qm 826 (by decide +kernel) rfl, qm 827 (by decide +kernel) rfl, qm 42 (by decide +kernel) rfl, (by decide +kernel), (by decide +kernel)⟩
theorem mX5_pass : qMth yX5_pass (.code yX5_pass cX5_pass 5 (some .int)) cX5_pass 5 (some .int) 1 := ⟨rfl, qm 841 (by decide +kernel) rfl, qm 839 (by decide +kernel) rfl, qm 840 (by decide +kernel) rfl, qm 42 (by decide +kernel) rfl, (by decide +kernel), (by decide +kernel)⟩
theorem mX5_now : qMth yX5_now (.code yX5_now cX5_now 1 (some .int)) cX5_now 1 (some .int) 0 := ⟨rfl, qm 215 (by decide +kernel) rfl, qm 213 (by decide +kernel) rfl, qm 214 (by decide +kernel) rfl, qm 42 (by decide +kernel) rfl, (by decide +kernel), (by decide +kernel)⟩
theorem mX5_weightLeft : qMth yX5_weightLeft (.code yX5_weightLeft cX5_weightLeft 1 (some .long)) cX5_weightLeft 1 (some .long) 0 := ⟨rfl, qm 219 (by decide +kernel) rfl, qm 217 (by decide +kernel) rfl, qm 218 (by decide +kernel) rfl, qm 42 (by decide +kernel) rfl, (by decide +kernel), (by decide +kernel)⟩
theorem mX5_doneShare : qMth yX5_doneShare (.code yX5_doneShare cX5_doneShare 3 (some .float)) cX5_doneShare 3 (some .float) 0 := ⟨rfl, qm 862 (by decide +kernel) rfl, qm 860 (by decide +kernel) rfl, qm 861 (by decide +kernel) rfl, qm 42 (by decide +kernel) rfl, (by decide +kernel), (by decide +kernel)⟩
theorem mX5_requireStack : qMth yX5_requireStack (.code yX5_requireStack cX5_requireStack 2 none) cX5_requireStack 2 none 1 := ⟨rfl, qm 335 (by decide +kernel) rfl, qm 334 (by decide +kernel) rfl, qm 1 (by decide +kernel) rfl, qm 42 (by decide +kernel) rfl, (by decide +kernel), (by decide +kernel)⟩
theorem mX5_requireBox : qMth yX5_requireBox (.code yX5_requireBox cX5_requireBox 2 none) cX5_requireBox 2 none 1 := ⟨rfl, qm 421 (by decide +kernel) rfl, qm 420 (by decide +kernel) rfl, qm 2 (by decide +kernel) rfl, qm 42 (by decide +kernel) rfl, (by decide +kernel), (by decide +kernel)⟩
theorem mX5_requireLane : qMth yX5_requireLane (.code yX5_requireLane cX5_requireLane 2 none) cX5_requireLane 2 none 1 := ⟨rfl, qm 760 (by decide +kernel) rfl, qm 759 (by decide +kernel) rfl, qm 12 (by decide +kernel) rfl, qm 42 (by decide +kernel) rfl, (by decide +kernel), (by decide +kernel)⟩
theorem mX5_requireAppointment : qMth yX5_requireAppointment (.code yX5_requireAppointment cX5_requireAppointment 2 none) cX5_requireAppointment 2 none 1 := ⟨rfl, qm 788 (by decide +kernel) rfl, qm 787 (by decide +kernel) rfl, qm 13 (by decide +kernel) rfl, qm 42 (by decide +kernel) rfl, (by decide +kernel), (by decide +kernel)⟩
theorem mX5_requirePlan : qMth yX5_requirePlan (.code yX5_requirePlan cX5_requirePlan 2 none) cX5_requirePlan 2 none 1 := ⟨rfl, qm 626 (by decide +kernel) rfl, qm 625 (by decide +kernel) rfl, qm 6 (by decide +kernel) rfl, qm 42 (by decide +kernel) rfl, (by decide +kernel), (by decide +kernel)⟩
theorem mX5_requirePlannedMove : qMth yX5_requirePlannedMove (.code yX5_requirePlannedMove cX5_requirePlannedMove 2 none) cX5_requirePlannedMove 2 none 1 := ⟨rfl, qm 722 (by decide +kernel) rfl, qm 721 (by decide +kernel) rfl, qm 10 (by decide +kernel) rfl, qm 42 (by decide +kernel) rfl, (by decide +kernel), (by decide +kernel)⟩
theorem mX5_makeMove : qMth yX5_makeMove (.code yX5_makeMove cX5_makeMove 3 none) cX5_makeMove 3 none 2 := ⟨rfl, qm 606 (by decide +kernel) rfl, qm 605 (by decide +kernel) rfl, qm 5 (by decide +kernel) rfl, qm 42 (by decide +kernel) rfl, (by decide +kernel), (by decide +kernel)⟩
theorem mX5_makePlannedMoves : qMth yX5_makePlannedMoves (.code yX5_makePlannedMoves cX5_makePlannedMoves 2 none) cX5_makePlannedMoves 2 none 0 := ⟨rfl, qm 749 (by decide +kernel) rfl, qm 748 (by decide +kernel) rfl, qm 11 (by decide +kernel) rfl, qm 42 (by decide +kernel) rfl, (by decide +kernel), (by decide +kernel)⟩
theorem mX5_giveBackIfHeld : qMth yX5_giveBackIfHeld (.code yX5_giveBackIfHeld cX5_giveBackIfHeld 3 (some .boolean)) cX5_giveBackIfHeld 3 (some .boolean) 1 := ⟨rfl, qm 509 (by decide +kernel) rfl, qm 508 (by decide +kernel) rfl, qm 3 (by decide +kernel) rfl, qm 42 (by decide +kernel) rfl, (by decide +kernel), (by decide +kernel)⟩
theorem mX5_serve : qMth yX5_serve (.code yX5_serve cX5_serve 3 (some .int)) cX5_serve 3 (some .int) 1 := ⟨rfl, qm 850 (by decide +kernel) rfl, qm 849 (by decide +kernel) rfl, qm 14 (by decide +kernel) rfl, qm 42 (by decide +kernel) rfl, (by decide +kernel), (by decide +kernel)⟩
theorem mX6_thrown : qMth yX6_thrown (.code yX6_thrown cX6_thrown 1 (some .int)) cX6_thrown 1 (some .int) 0 := ⟨rfl, qm 932 (by decide +kernel) rfl, qm 930 (by decide +kernel) rfl, qm 931 (by decide +kernel) rfl, qm 48 (by decide +kernel) rfl, (by decide +kernel), (by decide +kernel)⟩
theorem mX6_in : qMts yX6_in (.code yX6_in cX6_in 3 (some .boolean)) cX6_in 3 (some .boolean) 3 := ⟨rfl, qm 939 (by decide +kernel) rfl, qm 938 (by decide +kernel) rfl, qm 48 (by decide +kernel) rfl, (by decide +kernel), (by decide +kernel)⟩
theorem mX6_fails : qMth yX6_fails (.code yX6_fails cX6_fails 2 (some .int)) cX6_fails 2 (some .int) 1 := ⟨rfl, qm 943 (by decide +kernel) rfl, qm 942 (by decide +kernel) rfl, qm 15 (by decide +kernel) rfl, qm 48 (by decide +kernel) rfl, (by decide +kernel), (by decide +kernel)⟩
theorem mX6_isBox : qMth yX6_isBox (.code yX6_isBox cX6_isBox 2 (some .boolean)) cX6_isBox 2 (some .boolean) 1 := ⟨rfl, qm 979 (by decide +kernel) rfl, qm 978 (by decide +kernel) rfl, qm 21 (by decide +kernel) rfl, qm 48 (by decide +kernel) rfl, (by decide +kernel), (by decide +kernel)⟩
theorem mX6_isStack : qMth yX6_isStack (.code yX6_isStack cX6_isStack 2 (some .boolean)) cX6_isStack 2 (some .boolean) 1 := ⟨rfl, qm 951 (by decide +kernel) rfl, qm 950 (by decide +kernel) rfl, qm 16 (by decide +kernel) rfl, qm 48 (by decide +kernel) rfl, (by decide +kernel), (by decide +kernel)⟩
theorem mX6_isPinned : qMth yX6_isPinned (.code yX6_isPinned cX6_isPinned 2 (some .boolean)) cX6_isPinned 2 (some .boolean) 1 := ⟨rfl, qm 1043 (by decide +kernel) rfl, qm 1042 (by decide +kernel) rfl, qm 26 (by decide +kernel) rfl, qm 48 (by decide +kernel) rfl, (by decide +kernel), (by decide +kernel)⟩
theorem mX6_placeOf : qMth yX6_placeOf (.code yX6_placeOf cX6_placeOf 5 (some .int)) cX6_placeOf 5 (some .int) 2 := ⟨rfl, qm 991 (by decide +kernel) rfl, qm 990 (by decide +kernel) rfl, qm 22 (by decide +kernel) rfl, qm 48 (by decide +kernel) rfl, (by decide +kernel), (by decide +kernel)⟩
theorem mX6_levelOf : qMth yX6_levelOf (.code yX6_levelOf cX6_levelOf 5 (some .int)) cX6_levelOf 5 (some .int) 2 := ⟨rfl, qm 999 (by decide +kernel) rfl, qm 998 (by decide +kernel) rfl, qm 23 (by decide +kernel) rfl, qm 48 (by decide +kernel) rfl, (by decide +kernel), (by decide +kernel)⟩
theorem mX6_topOf : qMth yX6_topOf (.code yX6_topOf cX6_topOf 4 (some .int)) cX6_topOf 4 (some .int) 2 := ⟨rfl, qm 959 (by decide +kernel) rfl, qm 958 (by decide +kernel) rfl, qm 18 (by decide +kernel) rfl, qm 48 (by decide +kernel) rfl, (by decide +kernel), (by decide +kernel)⟩
theorem mX6_isTop : qMth yX6_isTop (.code yX6_isTop cX6_isTop 3 (some .boolean)) cX6_isTop 3 (some .boolean) 2 := ⟨rfl, qm 1051 (by decide +kernel) rfl, qm 1050 (by decide +kernel) rfl, qm 27 (by decide +kernel) rfl, qm 48 (by decide +kernel) rfl, (by decide +kernel), (by decide +kernel)⟩
theorem mX6_takes : qMth yX6_takes (.code yX6_takes cX6_takes 4 (some .boolean)) cX6_takes 4 (some .boolean) 3 := ⟨rfl, qm 955 (by decide +kernel) rfl, qm 954 (by decide +kernel) rfl, qm 17 (by decide +kernel) rfl, qm 48 (by decide +kernel) rfl, (by decide +kernel), (by decide +kernel)⟩
theorem mX6_lays : qMth yX6_lays (.code yX6_lays cX6_lays 4 none) cX6_lays 4 none 3 := ⟨rfl, qm 967 (by decide +kernel) rfl, qm 966 (by decide +kernel) rfl, qm 20 (by decide +kernel) rfl, qm 48 (by decide +kernel) rfl, (by decide +kernel), (by decide +kernel)⟩
theorem mX6_canMove : qMth yX6_canMove (.code yX6_canMove cX6_canMove 4 (some .boolean)) cX6_canMove 4 (some .boolean) 3 := ⟨rfl, qm 1059 (by decide +kernel) rfl, qm 1058 (by decide +kernel) rfl, qm 28 (by decide +kernel) rfl, qm 48 (by decide +kernel) rfl, (by decide +kernel), (by decide +kernel)⟩
theorem mX6_moves : qMth yX6_moves (.code yX6_moves cX6_moves 4 none) cX6_moves 4 none 3 := ⟨rfl, qm 1063 (by decide +kernel) rfl, qm 1062 (by decide +kernel) rfl, qm 29 (by decide +kernel) rfl, qm 48 (by decide +kernel) rfl, (by decide +kernel), (by decide +kernel)⟩
theorem mX6_copies : qMth yX6_copies (.code yX6_copies cX6_copies 4 none) cX6_copies 4 none 2 := ⟨rfl, qm 1087 (by decide +kernel) rfl, qm 1086 (by decide +kernel) rfl, qm 34 (by decide +kernel) rfl, qm 48 (by decide +kernel) rfl, (by decide +kernel), (by decide +kernel)⟩
theorem mX6_nextMove : qMth yX6_nextMove (.code yX6_nextMove cX6_nextMove 5 (some .int)) cX6_nextMove 5 (some .int) 3 := ⟨rfl, qm 1083 (by decide +kernel) rfl, qm 1082 (by decide +kernel) rfl, qm 33 (by decide +kernel) rfl, qm 48 (by decide +kernel) rfl, (by decide +kernel), (by decide +kernel)⟩
theorem mX6_finds : qMth yX6_finds (.code yX6_finds cX6_finds 6 (some .boolean)) cX6_finds 6 (some .boolean) 2 := ⟨rfl, qm 1079 (by decide +kernel) rfl, qm 1078 (by decide +kernel) rfl, qm 32 (by decide +kernel) rfl, qm 48 (by decide +kernel) rfl, (by decide +kernel), (by decide +kernel)⟩
theorem mX6_aboveOf : qMth yX6_aboveOf (.code yX6_aboveOf cX6_aboveOf 2 (some .int)) cX6_aboveOf 2 (some .int) 1 := ⟨rfl, qm 1007 (by decide +kernel) rfl, qm 1006 (by decide +kernel) rfl, qm 24 (by decide +kernel) rfl, qm 48 (by decide +kernel) rfl, (by decide +kernel), (by decide +kernel)⟩
theorem mX6_plans : qMth yX6_plans (.code yX6_plans cX6_plans 3 (some .int)) cX6_plans 3 (some .int) 1 := ⟨rfl, qm 1075 (by decide +kernel) rfl, qm 1074 (by decide +kernel) rfl, qm 31 (by decide +kernel) rfl, qm 48 (by decide +kernel) rfl, (by decide +kernel), (by decide +kernel)⟩
theorem mX6_makes : qMth yX6_makes (.code yX6_makes cX6_makes 3 none) cX6_makes 3 none 1 := ⟨rfl, qm 1111 (by decide +kernel) rfl, qm 1110 (by decide +kernel) rfl, qm 36 (by decide +kernel) rfl, qm 48 (by decide +kernel) rfl, (by decide +kernel), (by decide +kernel)⟩
theorem mX6_addStack : qMth yX6_addStack (.code yX6_addStack cX6_addStack 2 (some .int)) cX6_addStack 2 (some .int) 1 := ⟨rfl, qm 936 (by decide +kernel) rfl, qm 934 (by decide +kernel) rfl, qm 935 (by decide +kernel) rfl, qm 48 (by decide +kernel) rfl, (by decide +kernel), (by decide +kernel)⟩
theorem mX6_insideNow : qMth yX6_insideNow (.code yX6_insideNow cX6_insideNow 3 (some .int)) cX6_insideNow 3 (some .int) 0 := ⟨rfl, qm 963 (by decide +kernel) rfl, qm 962 (by decide +kernel) rfl, qm 19 (by decide +kernel) rfl, qm 48 (by decide +kernel) rfl, (by decide +kernel), (by decide +kernel)⟩
theorem mX6_addBox : qMth yX6_addBox (.code yX6_addBox cX6_addBox 3 (some .int)) cX6_addBox 3 (some .int) 2 := ⟨rfl, qm 947 (by decide +kernel) rfl, qm 945 (by decide +kernel) rfl, qm 946 (by decide +kernel) rfl, qm 48 (by decide +kernel) rfl, (by decide +kernel), (by decide +kernel)⟩
theorem mX6_boxes : qMth yX6_boxes (.code yX6_boxes cX6_boxes 1 (some .int)) cX6_boxes 1 (some .int) 0 := ⟨rfl, qm 971 (by decide +kernel) rfl, qm 969 (by decide +kernel) rfl, qm 970 (by decide +kernel) rfl, qm 48 (by decide +kernel) rfl, (by decide +kernel), (by decide +kernel)⟩
theorem mX6_isInYard : qMth yX6_isInYard (.code yX6_isInYard cX6_isInYard 2 (some .boolean)) cX6_isInYard 2 (some .boolean) 1 := ⟨rfl, qm 975 (by decide +kernel) rfl, qm 973 (by decide +kernel) rfl, qm 974 (by decide +kernel) rfl, qm 48 (by decide +kernel) rfl, (by decide +kernel), (by decide +kernel)⟩
theorem mX6_weight : qMth yX6_weight (.code yX6_weight cX6_weight 2 (some .int)) cX6_weight 2 (some .int) 1 := ⟨rfl, qm 983 (by decide +kernel) rfl, qm 981 (by decide +kernel) rfl, qm 982 (by decide +kernel) rfl, qm 48 (by decide +kernel) rfl, (by decide +kernel), (by decide +kernel)⟩
theorem mX6_stackOf : qMth yX6_stackOf (.code yX6_stackOf cX6_stackOf 2 (some .int)) cX6_stackOf 2 (some .int) 1 := ⟨rfl, qm 987 (by decide +kernel) rfl, qm 985 (by decide +kernel) rfl, qm 986 (by decide +kernel) rfl, qm 48 (by decide +kernel) rfl, (by decide +kernel), (by decide +kernel)⟩
theorem mX6_level : qMth yX6_level (.code yX6_level cX6_level 2 (some .int)) cX6_level 2 (some .int) 1 := ⟨rfl, qm 995 (by decide +kernel) rfl, qm 993 (by decide +kernel) rfl, qm 994 (by decide +kernel) rfl, qm 48 (by decide +kernel) rfl, (by decide +kernel), (by decide +kernel)⟩
theorem mX6_above : qMth yX6_above (.code yX6_above cX6_above 2 (some .int)) cX6_above 2 (some .int) 1 := ⟨rfl, qm 1003 (by decide +kernel) rfl, qm 1001 (by decide +kernel) rfl, qm 1002 (by decide +kernel) rfl, qm 48 (by decide +kernel) rfl, (by decide +kernel), (by decide +kernel)⟩
theorem mX6_height : qMth yX6_height (.code yX6_height cX6_height 2 (some .int)) cX6_height 2 (some .int) 1 := ⟨rfl, qm 1011 (by decide +kernel) rfl, qm 1009 (by decide +kernel) rfl, qm 1010 (by decide +kernel) rfl, qm 48 (by decide +kernel) rfl, (by decide +kernel), (by decide +kernel)⟩
theorem mX6_boxAt : qMth yX6_boxAt (.code yX6_boxAt cX6_boxAt 3 (some .int)) cX6_boxAt 3 (some .int) 2 := ⟨rfl, qm 1015 (by decide +kernel) rfl, qm 1013 (by decide +kernel) rfl, qm 1014 (by decide +kernel) rfl, qm 48 (by decide +kernel) rfl, (by decide +kernel), (by decide +kernel)⟩
theorem mX6_appointmentIn : qMth yX6_appointmentIn (.code yX6_appointmentIn cX6_appointmentIn 3 (some .int)) cX6_appointmentIn 3 (some .int) 1 := ⟨rfl, qm 1023 (by decide +kernel) rfl, qm 1022 (by decide +kernel) rfl, qm 25 (by decide +kernel) rfl, qm 48 (by decide +kernel) rfl, (by decide +kernel), (by decide +kernel)⟩
theorem mX6_hold : qMth yX6_hold (.code yX6_hold cX6_hold 5 (some .int)) cX6_hold 5 (some .int) 3 := ⟨rfl, qm 1019 (by decide +kernel) rfl, qm 1017 (by decide +kernel) rfl, qm 1018 (by decide +kernel) rfl, qm 48 (by decide +kernel) rfl, (by decide +kernel), (by decide +kernel)⟩
theorem mX6_release : qMth yX6_release (.code yX6_release cX6_release 2 (some .int)) cX6_release 2 (some .int) 1 := ⟨rfl, qm 1027 (by decide +kernel) rfl, qm 1025 (by decide +kernel) rfl, qm 1026 (by decide +kernel) rfl, qm 48 (by decide +kernel) rfl, (by decide +kernel), (by decide +kernel)⟩
theorem mX6_holdOf : qMth yX6_holdOf (.code yX6_holdOf cX6_holdOf 2 (some .char)) cX6_holdOf 2 (some .char) 1 := ⟨rfl, qm 1031 (by decide +kernel) rfl, qm 1029 (by decide +kernel) rfl, qm 1030 (by decide +kernel) rfl, qm 48 (by decide +kernel) rfl, (by decide +kernel), (by decide +kernel)⟩
theorem mX6_heldUntil : qMth yX6_heldUntil (.code yX6_heldUntil cX6_heldUntil 2 (some .int)) cX6_heldUntil 2 (some .int) 1 := ⟨rfl, qm 1035 (by decide +kernel) rfl, qm 1033 (by decide +kernel) rfl, qm 1034 (by decide +kernel) rfl, qm 48 (by decide +kernel) rfl, (by decide +kernel), (by decide +kernel)⟩
theorem mX6_pinnedAbove : qMth yX6_pinnedAbove (.code yX6_pinnedAbove cX6_pinnedAbove 5 (some .int)) cX6_pinnedAbove 5 (some .int) 1 := ⟨rfl, qm 1039 (by decide +kernel) rfl, qm 1037 (by decide +kernel) rfl, qm 1038 (by decide +kernel) rfl, qm 48 (by decide +kernel) rfl, (by decide +kernel), (by decide +kernel)⟩
theorem mX6_why : qMth yX6_why (.code yX6_why cX6_why 4 (some .char)) cX6_why 4 (some .char) 2 := ⟨rfl, qm 1047 (by decide +kernel) rfl, qm 1045 (by decide +kernel) rfl, qm 1046 (by decide +kernel) rfl, qm 48 (by decide +kernel) rfl, (by decide +kernel), (by decide +kernel)⟩
theorem mX6_move : qMth yX6_move (.code yX6_move cX6_move 3 (some .int)) cX6_move 3 (some .int) 2 := ⟨rfl, qm 1055 (by decide +kernel) rfl, qm 1053 (by decide +kernel) rfl, qm 1054 (by decide +kernel) rfl, qm 48 (by decide +kernel) rfl, (by decide +kernel), (by decide +kernel)⟩
theorem mX6_planned : qMth yX6_planned (.code yX6_planned cX6_planned 3 (some .int)) cX6_planned 3 (some .int) 1 := ⟨rfl, qm 1071 (by decide +kernel) rfl, qm 1070 (by decide +kernel) rfl, qm 30 (by decide +kernel) rfl, qm 48 (by decide +kernel) rfl, (by decide +kernel), (by decide +kernel)⟩
theorem mX6_planLength : qMth yX6_planLength (.code yX6_planLength cX6_planLength 2 (some .int)) cX6_planLength 2 (some .int) 1 := ⟨rfl, qm 1067 (by decide +kernel) rfl, qm 1065 (by decide +kernel) rfl, qm 1066 (by decide +kernel) rfl, qm 48 (by decide +kernel) rfl, (by decide +kernel), (by decide +kernel)⟩
theorem mX6_planByTrying : qMth yX6_planByTrying (.code yX6_planByTrying cX6_planByTrying 2 (some .int)) cX6_planByTrying 2 (some .int) 1 := ⟨rfl, qm 1091 (by decide +kernel) rfl, qm 1089 (by decide +kernel) rfl, qm 1090 (by decide +kernel) rfl, qm 48 (by decide +kernel) rfl, (by decide +kernel), (by decide +kernel)⟩
theorem mX6_plannedAt : qMth yX6_plannedAt (.code yX6_plannedAt cX6_plannedAt 4 (some .int)) cX6_plannedAt 4 (some .int) 2 := ⟨rfl, qm 1099 (by decide +kernel) rfl, qm 1098 (by decide +kernel) rfl, qm 35 (by decide +kernel) rfl, qm 48 (by decide +kernel) rfl, (by decide +kernel), (by decide +kernel)⟩
theorem mX6_planBox : qMth yX6_planBox (.code yX6_planBox cX6_planBox 3 (some .int)) cX6_planBox 3 (some .int) 2 := ⟨rfl, qm 1095 (by decide +kernel) rfl, qm 1093 (by decide +kernel) rfl, qm 1094 (by decide +kernel) rfl, qm 48 (by decide +kernel) rfl, (by decide +kernel), (by decide +kernel)⟩
theorem mX6_planStack : qMth yX6_planStack (.code yX6_planStack cX6_planStack 3 (some .int)) cX6_planStack 3 (some .int) 2 := ⟨rfl, qm 1103 (by decide +kernel) rfl, qm 1101 (by decide +kernel) rfl, qm 1102 (by decide +kernel) rfl, qm 48 (by decide +kernel) rfl, (by decide +kernel), (by decide +kernel)⟩
theorem mX6_dig : qMth yX6_dig (.code yX6_dig cX6_dig 3 (some .int)) cX6_dig 3 (some .int) 1 := ⟨rfl, qm 1107 (by decide +kernel) rfl, qm 1105 (by decide +kernel) rfl, qm 1106 (by decide +kernel) rfl, qm 48 (by decide +kernel) rfl, (by decide +kernel), (by decide +kernel)⟩
theorem mX6_moves_ : qMth yX6_moves_ (.code yX6_moves_ cX6_moves_ 1 (some .int)) cX6_moves_ 1 (some .int) 0 := ⟨rfl, qm 1115 (by decide +kernel) rfl, qm 1113 (by decide +kernel) rfl, qm 1114 (by decide +kernel) rfl, qm 48 (by decide +kernel) rfl, (by decide +kernel), (by decide +kernel)⟩
theorem mX6_bookedIn : qMth yX6_bookedIn (.code yX6_bookedIn cX6_bookedIn 4 (some .int)) cX6_bookedIn 4 (some .int) 2 := ⟨rfl, qm 1127 (by decide +kernel) rfl, qm 1126 (by decide +kernel) rfl, qm 38 (by decide +kernel) rfl, qm 48 (by decide +kernel) rfl, (by decide +kernel), (by decide +kernel)⟩
theorem mX6_isHeldIn : qMth yX6_isHeldIn (.code yX6_isHeldIn cX6_isHeldIn 3 (some .boolean)) cX6_isHeldIn 3 (some .boolean) 2 := ⟨rfl, qm 1123 (by decide +kernel) rfl, qm 1122 (by decide +kernel) rfl, qm 37 (by decide +kernel) rfl, qm 48 (by decide +kernel) rfl, (by decide +kernel), (by decide +kernel)⟩
theorem mX6_book : qMth yX6_book (.code yX6_book cX6_book 4 (some .int)) cX6_book 4 (some .int) 3 := ⟨rfl, qm 1119 (by decide +kernel) rfl, qm 1117 (by decide +kernel) rfl, qm 1118 (by decide +kernel) rfl, qm 48 (by decide +kernel) rfl, (by decide +kernel), (by decide +kernel)⟩
theorem mX6_counted : qMth yX6_counted (.code yX6_counted cX6_counted 4 (some .int)) cX6_counted 4 (some .int) 1 := ⟨rfl, qm 1135 (by decide +kernel) rfl, qm 1134 (by decide +kernel) rfl, qm 39 (by decide +kernel) rfl, qm 48 (by decide +kernel) rfl, (by decide +kernel), (by decide +kernel)⟩
theorem mX6_cancel : qMth yX6_cancel (.code yX6_cancel cX6_cancel 2 (some .int)) cX6_cancel 2 (some .int) 1 := ⟨rfl, qm 1131 (by decide +kernel) rfl, qm 1129 (by decide +kernel) rfl, qm 1130 (by decide +kernel) rfl, qm 48 (by decide +kernel) rfl, (by decide +kernel), (by decide +kernel)⟩
theorem mX6_stateOf : qMth yX6_stateOf (.code yX6_stateOf cX6_stateOf 2 (some .char)) cX6_stateOf 2 (some .char) 1 := ⟨rfl, qm 1139 (by decide +kernel) rfl, qm 1137 (by decide +kernel) rfl, qm 1138 (by decide +kernel) rfl, qm 48 (by decide +kernel) rfl, (by decide +kernel), (by decide +kernel)⟩
theorem mX6_appointmentOf : qMth yX6_appointmentOf (.code yX6_appointmentOf cX6_appointmentOf 3 (some .int)) cX6_appointmentOf 3 (some .int) 1 := ⟨rfl, qm 1143 (by decide +kernel) rfl, qm 1141 (by decide +kernel) rfl, qm 1142 (by decide +kernel) rfl, qm 48 (by decide +kernel) rfl, (by decide +kernel), (by decide +kernel)⟩
theorem mX6_inLane : qMth yX6_inLane (.code yX6_inLane cX6_inLane 3 (some .int)) cX6_inLane 3 (some .int) 2 := ⟨rfl, qm 1147 (by decide +kernel) rfl, qm 1145 (by decide +kernel) rfl, qm 1146 (by decide +kernel) rfl, qm 48 (by decide +kernel) rfl, (by decide +kernel), (by decide +kernel)⟩
theorem mX6_firstHour : qMth yX6_firstHour (.code yX6_firstHour cX6_firstHour 4 (some .int)) cX6_firstHour 4 (some .int) 1 := ⟨rfl, qm 1151 (by decide +kernel) rfl, qm 1149 (by decide +kernel) rfl, qm 1150 (by decide +kernel) rfl, qm 48 (by decide +kernel) rfl, (by decide +kernel), (by decide +kernel)⟩
theorem mX6_leaves : qMth yX6_leaves (.code yX6_leaves cX6_leaves 4 (some .boolean)) cX6_leaves 4 (some .boolean) 1 := ⟨rfl, qm 1159 (by decide +kernel) rfl, qm 1158 (by decide +kernel) rfl, qm 40 (by decide +kernel) rfl, qm 48 (by decide +kernel) rfl, (by decide +kernel), (by decide +kernel)⟩
theorem mX6_pass : qMth yX6_pass (.code yX6_pass cX6_pass 6 (some .int)) cX6_pass 6 (some .int) 1 := ⟨rfl, qm 1155 (by decide +kernel) rfl, qm 1153 (by decide +kernel) rfl, qm 1154 (by decide +kernel) rfl, qm 48 (by decide +kernel) rfl, (by decide +kernel), (by decide +kernel)⟩
theorem mX6_now : qMth yX6_now (.code yX6_now cX6_now 1 (some .int)) cX6_now 1 (some .int) 0 := ⟨rfl, qm 1163 (by decide +kernel) rfl, qm 1161 (by decide +kernel) rfl, qm 1162 (by decide +kernel) rfl, qm 48 (by decide +kernel) rfl, (by decide +kernel), (by decide +kernel)⟩
theorem mX6_weightLeft : qMth yX6_weightLeft (.code yX6_weightLeft cX6_weightLeft 1 (some .long)) cX6_weightLeft 1 (some .long) 0 := ⟨rfl, qm 1167 (by decide +kernel) rfl, qm 1165 (by decide +kernel) rfl, qm 1166 (by decide +kernel) rfl, qm 48 (by decide +kernel) rfl, (by decide +kernel), (by decide +kernel)⟩
theorem mX6_doneShare : qMth yX6_doneShare (.code yX6_doneShare cX6_doneShare 2 (some .float)) cX6_doneShare 2 (some .float) 0 := ⟨rfl, qm 1171 (by decide +kernel) rfl, qm 1169 (by decide +kernel) rfl, qm 1170 (by decide +kernel) rfl, qm 48 (by decide +kernel) rfl, (by decide +kernel), (by decide +kernel)⟩
theorem ml_L_128 : Cond.methodLink RL 128 yX5_boxes ∈ qAW := qm 192 (by decide +kernel) rfl
theorem ml_X5_80 : Cond.methodLink RX5 80 yX4_boxCount ∈ qAW := qm 196 (by decide +kernel) rfl
theorem ml_L_132 : Cond.methodLink RL 132 yX5_isInYard ∈ qAW := qm 200 (by decide +kernel) rfl
theorem ml_X5_95 : Cond.methodLink RX5 95 yX4_stackWith ∈ qAW := qm 204 (by decide +kernel) rfl
theorem ml_L_192 : Cond.methodLink RL 192 yX5_moves ∈ qAW := qm 208 (by decide +kernel) rfl
theorem ml_L_218 : Cond.methodLink RL 218 yX5_now ∈ qAW := qm 212 (by decide +kernel) rfl
theorem ml_L_222 : Cond.methodLink RL 222 yX5_weightLeft ∈ qAW := qm 216 (by decide +kernel) rfl
theorem ml_L_114 : Cond.methodLink RL 114 yL_addStack ∈ qAW := qm 220 (by decide +kernel) rfl
theorem ml_L_7 : Cond.methodLink RL 7 yX5_addStack ∈ qAW := qm 225 (by decide +kernel) rfl
theorem ml_X5_48 : Cond.methodLink RX5 48 yX4_stackCount ∈ qAW := qm 299 (by decide +kernel) rfl
theorem ml_X5_57 : Cond.methodLink RX5 57 yX4_openStack ∈ qAW := qm 319 (by decide +kernel) rfl
theorem ml_L_124 : Cond.methodLink RL 124 yL_addBox ∈ qAW := qm 323 (by decide +kernel) rfl
theorem ml_L_17 : Cond.methodLink RL 17 yX5_addBox ∈ qAW := qm 328 (by decide +kernel) rfl
theorem ml_X5_61 : Cond.methodLink RX5 61 yX5_requireStack ∈ qAW := qm 332 (by decide +kernel) rfl
theorem ml_X5_255 : Cond.methodLink RX5 255 yX4_hasStack ∈ qAW := qm 336 (by decide +kernel) rfl
theorem ml_X5_67 : Cond.methodLink RX5 67 yX4_isFull ∈ qAW := qm 357 (by decide +kernel) rfl
theorem ml_X5_71 : Cond.methodLink RX5 71 yX4_bears ∈ qAW := qm 361 (by decide +kernel) rfl
theorem ml_X4_41 : Cond.methodLink RX4 41 yX4_topOf ∈ qAW := qm 365 (by decide +kernel) rfl
theorem ml_X4_45 : Cond.methodLink RX4 45 yX0_weightOf ∈ qAW := qm 369 (by decide +kernel) rfl
theorem ml_X5_83 : Cond.methodLink RX5 83 yX0_come ∈ qAW := qm 389 (by decide +kernel) rfl
theorem ml_X5_88 : Cond.methodLink RX5 88 yX0_register ∈ qAW := qm 394 (by decide +kernel) rfl
theorem ml_X0_26 : Cond.methodLink RX0 26 yX0_endHold ∈ qAW := qm 398 (by decide +kernel) rfl
theorem ml_X0_42 : Cond.methodLink RX0 42 yX0_putHold ∈ qAW := qm 402 (by decide +kernel) rfl
theorem ml_X5_91 : Cond.methodLink RX5 91 yX4_put ∈ qAW := qm 406 (by decide +kernel) rfl
theorem ml_X4_67 : Cond.methodLink RX4 67 yX4_isFull ∈ qAW := qm 410 (by decide +kernel) rfl
theorem ml_L_137 : Cond.methodLink RL 137 yL_weight ∈ qAW := qm 411 (by decide +kernel) rfl
theorem ml_L_25 : Cond.methodLink RL 25 yX5_weight ∈ qAW := qm 414 (by decide +kernel) rfl
theorem ml_X5_98 : Cond.methodLink RX5 98 yX5_requireBox ∈ qAW := qm 418 (by decide +kernel) rfl
theorem ml_X5_101 : Cond.methodLink RX5 101 yX0_weightOf ∈ qAW := qm 423 (by decide +kernel) rfl
theorem ml_L_140 : Cond.methodLink RL 140 yL_stackOf ∈ qAW := qm 424 (by decide +kernel) rfl
theorem ml_L_28 : Cond.methodLink RL 28 yX5_stackOf ∈ qAW := qm 427 (by decide +kernel) rfl
theorem ml_L_143 : Cond.methodLink RL 143 yL_level ∈ qAW := qm 431 (by decide +kernel) rfl
theorem ml_L_31 : Cond.methodLink RL 31 yX5_level ∈ qAW := qm 434 (by decide +kernel) rfl
theorem ml_X5_104 : Cond.methodLink RX5 104 yX4_boxesUnder ∈ qAW := qm 438 (by decide +kernel) rfl
theorem ml_X4_53 : Cond.methodLink RX4 53 yX4_stackWith ∈ qAW := qm 442 (by decide +kernel) rfl
theorem ml_X4_50 : Cond.methodLink RX4 50 yX4_heightOf ∈ qAW := qm 443 (by decide +kernel) rfl
theorem ml_X4_56 : Cond.methodLink RX4 56 yX4_boxOn ∈ qAW := qm 447 (by decide +kernel) rfl
theorem ml_L_146 : Cond.methodLink RL 146 yL_above ∈ qAW := qm 451 (by decide +kernel) rfl
theorem ml_L_34 : Cond.methodLink RL 34 yX5_above ∈ qAW := qm 454 (by decide +kernel) rfl
theorem ml_X5_107 : Cond.methodLink RX5 107 yX4_boxesOver ∈ qAW := qm 458 (by decide +kernel) rfl
theorem ml_X4_60 : Cond.methodLink RX4 60 yX4_boxesUnder ∈ qAW := qm 462 (by decide +kernel) rfl
theorem ml_L_149 : Cond.methodLink RL 149 yL_height ∈ qAW := qm 463 (by decide +kernel) rfl
theorem ml_L_37 : Cond.methodLink RL 37 yX5_height ∈ qAW := qm 466 (by decide +kernel) rfl
theorem ml_X5_110 : Cond.methodLink RX5 110 yX4_heightOf ∈ qAW := qm 470 (by decide +kernel) rfl
theorem ml_L_152 : Cond.methodLink RL 152 yL_boxAt ∈ qAW := qm 471 (by decide +kernel) rfl
theorem ml_L_40 : Cond.methodLink RL 40 yX5_boxAt ∈ qAW := qm 475 (by decide +kernel) rfl
theorem ml_X5_113 : Cond.methodLink RX5 113 yX4_boxOn ∈ qAW := qm 479 (by decide +kernel) rfl
theorem ml_L_155 : Cond.methodLink RL 155 yL_hold ∈ qAW := qm 496 (by decide +kernel) rfl
theorem ml_L_45 : Cond.methodLink RL 45 yX5_hold ∈ qAW := qm 499 (by decide +kernel) rfl
theorem ml_X5_130 : Cond.methodLink RX5 130 yX0_putHold ∈ qAW := qm 505 (by decide +kernel) rfl
theorem ml_X5_134 : Cond.methodLink RX5 134 yX5_giveBackIfHeld ∈ qAW := qm 506 (by decide +kernel) rfl
theorem ml_X5_200 : Cond.methodLink RX5 200 yX1_bookedFor ∈ qAW := qm 510 (by decide +kernel) rfl
theorem ml_X5_277 : Cond.methodLink RX5 277 yX1_hourOf ∈ qAW := qm 514 (by decide +kernel) rfl
theorem ml_X1_29 : Cond.methodLink RX1 29 yX1_has ∈ qAW := qm 518 (by decide +kernel) rfl
theorem ml_X5_195 : Cond.methodLink RX5 195 yX0_isHeldIn ∈ qAW := qm 522 (by decide +kernel) rfl
theorem ml_X0_34 : Cond.methodLink RX0 34 yX0_isHeld ∈ qAW := qm 526 (by decide +kernel) rfl
theorem ml_X0_30 : Cond.methodLink RX0 30 yX0_holdKind ∈ qAW := qm 530 (by decide +kernel) rfl
theorem ml_X0_38 : Cond.methodLink RX0 38 yX0_holdEnd ∈ qAW := qm 534 (by decide +kernel) rfl
theorem ml_X5_224 : Cond.methodLink RX5 224 yX1_turn ∈ qAW := qm 538 (by decide +kernel) rfl
theorem ml_L_159 : Cond.methodLink RL 159 yL_release ∈ qAW := qm 542 (by decide +kernel) rfl
theorem ml_L_49 : Cond.methodLink RL 49 yX5_release ∈ qAW := qm 545 (by decide +kernel) rfl
theorem ml_X5_137 : Cond.methodLink RX5 137 yX0_isHeld ∈ qAW := qm 549 (by decide +kernel) rfl
theorem ml_X5_142 : Cond.methodLink RX5 142 yX0_holdEnd ∈ qAW := qm 551 (by decide +kernel) rfl
theorem ml_X5_145 : Cond.methodLink RX5 145 yX0_endHold ∈ qAW := qm 552 (by decide +kernel) rfl
theorem ml_L_162 : Cond.methodLink RL 162 yL_holdOf ∈ qAW := qm 553 (by decide +kernel) rfl
theorem ml_L_52 : Cond.methodLink RL 52 yX5_holdOf ∈ qAW := qm 556 (by decide +kernel) rfl
theorem ml_X5_148 : Cond.methodLink RX5 148 yX0_holdKind ∈ qAW := qm 560 (by decide +kernel) rfl
theorem ml_L_165 : Cond.methodLink RL 165 yL_heldUntil ∈ qAW := qm 561 (by decide +kernel) rfl
theorem ml_L_56 : Cond.methodLink RL 56 yX5_heldUntil ∈ qAW := qm 564 (by decide +kernel) rfl
theorem ml_L_168 : Cond.methodLink RL 168 yL_pinnedAbove ∈ qAW := qm 568 (by decide +kernel) rfl
theorem ml_L_59 : Cond.methodLink RL 59 yX5_pinnedAbove ∈ qAW := qm 571 (by decide +kernel) rfl
theorem ml_X5_152 : Cond.methodLink RX5 152 yX4_pinnedOver ∈ qAW := qm 575 (by decide +kernel) rfl
theorem ml_X4_63 : Cond.methodLink RX4 63 yX0_isPinned ∈ qAW := qm 579 (by decide +kernel) rfl
theorem ml_L_171 : Cond.methodLink RL 171 yL_why ∈ qAW := qm 583 (by decide +kernel) rfl
theorem ml_L_62 : Cond.methodLink RL 62 yX5_why ∈ qAW := qm 586 (by decide +kernel) rfl
theorem ml_X5_155 : Cond.methodLink RX5 155 yX4_reasonAgainst ∈ qAW := qm 590 (by decide +kernel) rfl
theorem ml_X4_70 : Cond.methodLink RX4 70 yX4_bears ∈ qAW := qm 594 (by decide +kernel) rfl
theorem ml_L_174 : Cond.methodLink RL 174 yL_move ∈ qAW := qm 595 (by decide +kernel) rfl
theorem ml_L_66 : Cond.methodLink RL 66 yX5_move ∈ qAW := qm 598 (by decide +kernel) rfl
theorem ml_X5_161 : Cond.methodLink RX5 161 yX5_makeMove ∈ qAW := qm 603 (by decide +kernel) rfl
theorem ml_X5_274 : Cond.methodLink RX5 274 yX4_shift ∈ qAW := qm 607 (by decide +kernel) rfl
theorem ml_X4_74 : Cond.methodLink RX4 74 yX4_take ∈ qAW := qm 611 (by decide +kernel) rfl
theorem ml_X4_78 : Cond.methodLink RX4 78 yX4_put ∈ qAW := qm 615 (by decide +kernel) rfl
theorem ml_L_177 : Cond.methodLink RL 177 yL_planLength ∈ qAW := qm 616 (by decide +kernel) rfl
theorem ml_L_69 : Cond.methodLink RL 69 yX5_planLength ∈ qAW := qm 619 (by decide +kernel) rfl
theorem ml_X5_167 : Cond.methodLink RX5 167 yX5_requirePlan ∈ qAW := qm 623 (by decide +kernel) rfl
theorem ml_X5_269 : Cond.methodLink RX5 269 yX3_find ∈ qAW := qm 627 (by decide +kernel) rfl
theorem ml_X3_25 : Cond.methodLink RX3 25 yX4_boxesOver ∈ qAW := qm 631 (by decide +kernel) rfl
theorem ml_X3_31 : Cond.methodLink RX3 31 yX2_clear ∈ qAW := qm 632 (by decide +kernel) rfl
theorem ml_X3_34 : Cond.methodLink RX3 34 yX3_begunWith ∈ qAW := qm 636 (by decide +kernel) rfl
theorem ml_X3_38 : Cond.methodLink RX3 38 yX2_add ∈ qAW := qm 639 (by decide +kernel) rfl
theorem ml_X3_42 : Cond.methodLink RX3 42 yX2_isEmpty ∈ qAW := qm 643 (by decide +kernel) rfl
theorem ml_X3_46 : Cond.methodLink RX3 46 yX2_takeFirst ∈ qAW := qm 647 (by decide +kernel) rfl
theorem ml_X2_17 : Cond.methodLink RX2 17 yX2_sinkFromTop ∈ qAW := qm 651 (by decide +kernel) rfl
theorem ml_X3_50 : Cond.methodLink RX3 50 yX3_needOf ∈ qAW := qm 655 (by decide +kernel) rfl
theorem ml_X3_54 : Cond.methodLink RX3 54 yX3_lengthOf ∈ qAW := qm 658 (by decide +kernel) rfl
theorem ml_X3_61 : Cond.methodLink RX3 61 yX3_layOut ∈ qAW := qm 661 (by decide +kernel) rfl
theorem ml_X3_72 : Cond.methodLink RX3 72 yX4_copyFrom ∈ qAW := qm 665 (by decide +kernel) rfl
theorem ml_X3_68 : Cond.methodLink RX3 68 yX3_moveOf ∈ qAW := qm 672 (by decide +kernel) rfl
theorem ml_X3_106 : Cond.methodLink RX3 106 yX3_shiftOf ∈ qAW := qm 675 (by decide +kernel) rfl
theorem ml_X3_95 : Cond.methodLink RX3 95 yX4_stackWith ∈ qAW := qm 678 (by decide +kernel) rfl
theorem ml_X3_91 : Cond.methodLink RX3 91 yX4_shift ∈ qAW := qm 679 (by decide +kernel) rfl
theorem ml_X3_64 : Cond.methodLink RX3 64 yX3_addNextMoves ∈ qAW := qm 680 (by decide +kernel) rfl
theorem ml_X3_80 : Cond.methodLink RX3 80 yX4_stackCount ∈ qAW := qm 684 (by decide +kernel) rfl
theorem ml_X3_84 : Cond.methodLink RX3 84 yX4_topOf ∈ qAW := qm 685 (by decide +kernel) rfl
theorem ml_X3_98 : Cond.methodLink RX3 98 yX3_extraNeed ∈ qAW := qm 686 (by decide +kernel) rfl
theorem ml_X3_87 : Cond.methodLink RX3 87 yX4_reasonAgainst ∈ qAW := qm 689 (by decide +kernel) rfl
theorem ml_X3_102 : Cond.methodLink RX3 102 yX3_goneOn ∈ qAW := qm 690 (by decide +kernel) rfl
theorem ml_X5_170 : Cond.methodLink RX5 170 yX3_length ∈ qAW := qm 694 (by decide +kernel) rfl
theorem ml_L_180 : Cond.methodLink RL 180 yL_planByTrying ∈ qAW := qm 698 (by decide +kernel) rfl
theorem ml_L_72 : Cond.methodLink RL 72 yX5_planByTrying ∈ qAW := qm 701 (by decide +kernel) rfl
theorem ml_X5_173 : Cond.methodLink RX5 173 yX3_lengthByTrying ∈ qAW := qm 705 (by decide +kernel) rfl
theorem ml_X3_76 : Cond.methodLink RX3 76 yX3_fewestMoves ∈ qAW := qm 709 (by decide +kernel) rfl
theorem ml_L_183 : Cond.methodLink RL 183 yL_planBox ∈ qAW := qm 712 (by decide +kernel) rfl
theorem ml_L_75 : Cond.methodLink RL 75 yX5_planBox ∈ qAW := qm 715 (by decide +kernel) rfl
theorem ml_X5_178 : Cond.methodLink RX5 178 yX5_requirePlannedMove ∈ qAW := qm 719 (by decide +kernel) rfl
theorem ml_X5_181 : Cond.methodLink RX5 181 yX3_boxMoved ∈ qAW := qm 724 (by decide +kernel) rfl
theorem ml_L_186 : Cond.methodLink RL 186 yL_planStack ∈ qAW := qm 728 (by decide +kernel) rfl
theorem ml_L_78 : Cond.methodLink RL 78 yX5_planStack ∈ qAW := qm 731 (by decide +kernel) rfl
theorem ml_X5_184 : Cond.methodLink RX5 184 yX3_stackReached ∈ qAW := qm 735 (by decide +kernel) rfl
theorem ml_L_189 : Cond.methodLink RL 189 yL_dig ∈ qAW := qm 739 (by decide +kernel) rfl
theorem ml_L_81 : Cond.methodLink RL 81 yX5_dig ∈ qAW := qm 742 (by decide +kernel) rfl
theorem ml_X5_187 : Cond.methodLink RX5 187 yX5_makePlannedMoves ∈ qAW := qm 746 (by decide +kernel) rfl
theorem ml_L_196 : Cond.methodLink RL 196 yL_book ∈ qAW := qm 750 (by decide +kernel) rfl
theorem ml_L_84 : Cond.methodLink RL 84 yX5_book ∈ qAW := qm 753 (by decide +kernel) rfl
theorem ml_X5_190 : Cond.methodLink RX5 190 yX5_requireLane ∈ qAW := qm 757 (by decide +kernel) rfl
theorem ml_X5_203 : Cond.methodLink RX5 203 yX1_bookedAt ∈ qAW := qm 764 (by decide +kernel) rfl
theorem ml_X5_208 : Cond.methodLink RX5 208 yX1_count ∈ qAW := qm 769 (by decide +kernel) rfl
theorem ml_X5_213 : Cond.methodLink RX5 213 yX1_register ∈ qAW := qm 774 (by decide +kernel) rfl
theorem ml_L_200 : Cond.methodLink RL 200 yL_cancel ∈ qAW := qm 778 (by decide +kernel) rfl
theorem ml_L_88 : Cond.methodLink RL 88 yX5_cancel ∈ qAW := qm 781 (by decide +kernel) rfl
theorem ml_X5_216 : Cond.methodLink RX5 216 yX5_requireAppointment ∈ qAW := qm 785 (by decide +kernel) rfl
theorem ml_X5_219 : Cond.methodLink RX5 219 yX1_state ∈ qAW := qm 790 (by decide +kernel) rfl
theorem ml_X5_228 : Cond.methodLink RX5 228 yX1_countIn ∈ qAW := qm 795 (by decide +kernel) rfl
theorem ml_L_203 : Cond.methodLink RL 203 yL_stateOf ∈ qAW := qm 799 (by decide +kernel) rfl
theorem ml_L_91 : Cond.methodLink RL 91 yX5_stateOf ∈ qAW := qm 802 (by decide +kernel) rfl
theorem ml_L_206 : Cond.methodLink RL 206 yL_appointmentOf ∈ qAW := qm 806 (by decide +kernel) rfl
theorem ml_L_94 : Cond.methodLink RL 94 yX5_appointmentOf ∈ qAW := qm 809 (by decide +kernel) rfl
theorem ml_L_209 : Cond.methodLink RL 209 yL_inLane ∈ qAW := qm 814 (by decide +kernel) rfl
theorem ml_L_97 : Cond.methodLink RL 97 yX5_inLane ∈ qAW := qm 817 (by decide +kernel) rfl
theorem ml_L_212 : Cond.methodLink RL 212 yL_firstHour ∈ qAW := qm 822 (by decide +kernel) rfl
theorem ml_L_100 : Cond.methodLink RL 100 yX5_firstHour ∈ qAW := qm 825 (by decide +kernel) rfl
theorem ml_X5_236 : Cond.methodLink RX5 236 yX1_hasFreeLane ∈ qAW := qm 829 (by decide +kernel) rfl
theorem ml_X1_33 : Cond.methodLink RX1 33 yX1_bookedAt ∈ qAW := qm 833 (by decide +kernel) rfl
theorem ml_L_215 : Cond.methodLink RL 215 yL_pass ∈ qAW := qm 835 (by decide +kernel) rfl
theorem ml_L_103 : Cond.methodLink RL 103 yX5_pass ∈ qAW := qm 838 (by decide +kernel) rfl
theorem ml_X5_243 : Cond.methodLink RX5 243 yX0_endHoldsOf ∈ qAW := qm 843 (by decide +kernel) rfl
theorem ml_X5_246 : Cond.methodLink RX5 246 yX5_serve ∈ qAW := qm 847 (by decide +kernel) rfl
theorem ml_X5_280 : Cond.methodLink RX5 280 yX1_boxOf ∈ qAW := qm 851 (by decide +kernel) rfl
theorem ml_X5_283 : Cond.methodLink RX5 283 yX4_take ∈ qAW := qm 855 (by decide +kernel) rfl
theorem ml_L_227 : Cond.methodLink RL 227 yL_doneShare ∈ qAW := qm 856 (by decide +kernel) rfl
theorem ml_L_106 : Cond.methodLink RL 106 yX5_doneShare ∈ qAW := qm 859 (by decide +kernel) rfl
theorem ml_L_120 : Cond.methodLink RL 120 yX6_thrown ∈ qAW := qm 929 (by decide +kernel) rfl
theorem ml_L_119 : Cond.methodLink RL 119 yX6_addStack ∈ qAW := qm 933 (by decide +kernel) rfl
theorem ml_X6_55 : Cond.methodLink RX6 55 yX6_in ∈ qAW := qm 937 (by decide +kernel) rfl
theorem ml_X6_110 : Cond.methodLink RX6 110 yX6_fails ∈ qAW := qm 940 (by decide +kernel) rfl
theorem ml_L_127 : Cond.methodLink RL 127 yX6_addBox ∈ qAW := qm 944 (by decide +kernel) rfl
theorem ml_X6_113 : Cond.methodLink RX6 113 yX6_isStack ∈ qAW := qm 948 (by decide +kernel) rfl
theorem ml_X6_77 : Cond.methodLink RX6 77 yX6_takes ∈ qAW := qm 952 (by decide +kernel) rfl
theorem ml_X6_66 : Cond.methodLink RX6 66 yX6_topOf ∈ qAW := qm 956 (by decide +kernel) rfl
theorem ml_X6_116 : Cond.methodLink RX6 116 yX6_insideNow ∈ qAW := qm 960 (by decide +kernel) rfl
theorem ml_X6_80 : Cond.methodLink RX6 80 yX6_lays ∈ qAW := qm 964 (by decide +kernel) rfl
theorem ml_L_131 : Cond.methodLink RL 131 yX6_boxes ∈ qAW := qm 968 (by decide +kernel) rfl
theorem ml_L_136 : Cond.methodLink RL 136 yX6_isInYard ∈ qAW := qm 972 (by decide +kernel) rfl
theorem ml_X6_120 : Cond.methodLink RX6 120 yX6_isBox ∈ qAW := qm 976 (by decide +kernel) rfl
theorem ml_L_139 : Cond.methodLink RL 139 yX6_weight ∈ qAW := qm 980 (by decide +kernel) rfl
theorem ml_L_142 : Cond.methodLink RL 142 yX6_stackOf ∈ qAW := qm 984 (by decide +kernel) rfl
theorem ml_X6_62 : Cond.methodLink RX6 62 yX6_placeOf ∈ qAW := qm 988 (by decide +kernel) rfl
theorem ml_L_145 : Cond.methodLink RL 145 yX6_level ∈ qAW := qm 992 (by decide +kernel) rfl
theorem ml_X6_98 : Cond.methodLink RX6 98 yX6_levelOf ∈ qAW := qm 996 (by decide +kernel) rfl
theorem ml_L_148 : Cond.methodLink RL 148 yX6_above ∈ qAW := qm 1000 (by decide +kernel) rfl
theorem ml_X6_101 : Cond.methodLink RX6 101 yX6_aboveOf ∈ qAW := qm 1004 (by decide +kernel) rfl
theorem ml_L_151 : Cond.methodLink RL 151 yX6_height ∈ qAW := qm 1008 (by decide +kernel) rfl
theorem ml_L_154 : Cond.methodLink RL 154 yX6_boxAt ∈ qAW := qm 1012 (by decide +kernel) rfl
theorem ml_L_158 : Cond.methodLink RL 158 yX6_hold ∈ qAW := qm 1016 (by decide +kernel) rfl
theorem ml_X6_129 : Cond.methodLink RX6 129 yX6_appointmentIn ∈ qAW := qm 1020 (by decide +kernel) rfl
theorem ml_L_161 : Cond.methodLink RL 161 yX6_release ∈ qAW := qm 1024 (by decide +kernel) rfl
theorem ml_L_164 : Cond.methodLink RL 164 yX6_holdOf ∈ qAW := qm 1028 (by decide +kernel) rfl
theorem ml_L_167 : Cond.methodLink RL 167 yX6_heldUntil ∈ qAW := qm 1032 (by decide +kernel) rfl
theorem ml_L_170 : Cond.methodLink RL 170 yX6_pinnedAbove ∈ qAW := qm 1036 (by decide +kernel) rfl
theorem ml_X6_73 : Cond.methodLink RX6 73 yX6_isPinned ∈ qAW := qm 1040 (by decide +kernel) rfl
theorem ml_L_173 : Cond.methodLink RL 173 yX6_why ∈ qAW := qm 1044 (by decide +kernel) rfl
theorem ml_X6_69 : Cond.methodLink RX6 69 yX6_isTop ∈ qAW := qm 1048 (by decide +kernel) rfl
theorem ml_L_176 : Cond.methodLink RL 176 yX6_move ∈ qAW := qm 1052 (by decide +kernel) rfl
theorem ml_X6_84 : Cond.methodLink RX6 84 yX6_canMove ∈ qAW := qm 1056 (by decide +kernel) rfl
theorem ml_X6_95 : Cond.methodLink RX6 95 yX6_moves ∈ qAW := qm 1060 (by decide +kernel) rfl
theorem ml_L_179 : Cond.methodLink RL 179 yX6_planLength ∈ qAW := qm 1064 (by decide +kernel) rfl
theorem ml_X6_135 : Cond.methodLink RX6 135 yX6_planned ∈ qAW := qm 1068 (by decide +kernel) rfl
theorem ml_X6_132 : Cond.methodLink RX6 132 yX6_plans ∈ qAW := qm 1072 (by decide +kernel) rfl
theorem ml_X6_105 : Cond.methodLink RX6 105 yX6_finds ∈ qAW := qm 1076 (by decide +kernel) rfl
theorem ml_X6_87 : Cond.methodLink RX6 87 yX6_nextMove ∈ qAW := qm 1080 (by decide +kernel) rfl
theorem ml_X6_91 : Cond.methodLink RX6 91 yX6_copies ∈ qAW := qm 1084 (by decide +kernel) rfl
theorem ml_L_182 : Cond.methodLink RL 182 yX6_planByTrying ∈ qAW := qm 1088 (by decide +kernel) rfl
theorem ml_L_185 : Cond.methodLink RL 185 yX6_planBox ∈ qAW := qm 1092 (by decide +kernel) rfl
theorem ml_X6_138 : Cond.methodLink RX6 138 yX6_plannedAt ∈ qAW := qm 1096 (by decide +kernel) rfl
theorem ml_L_188 : Cond.methodLink RL 188 yX6_planStack ∈ qAW := qm 1100 (by decide +kernel) rfl
theorem ml_L_191 : Cond.methodLink RL 191 yX6_dig ∈ qAW := qm 1104 (by decide +kernel) rfl
theorem ml_X6_141 : Cond.methodLink RX6 141 yX6_makes ∈ qAW := qm 1108 (by decide +kernel) rfl
theorem ml_L_195 : Cond.methodLink RL 195 yX6_moves_ ∈ qAW := qm 1112 (by decide +kernel) rfl
theorem ml_L_199 : Cond.methodLink RL 199 yX6_book ∈ qAW := qm 1116 (by decide +kernel) rfl
theorem ml_X6_145 : Cond.methodLink RX6 145 yX6_isHeldIn ∈ qAW := qm 1120 (by decide +kernel) rfl
theorem ml_X6_148 : Cond.methodLink RX6 148 yX6_bookedIn ∈ qAW := qm 1124 (by decide +kernel) rfl
theorem ml_L_202 : Cond.methodLink RL 202 yX6_cancel ∈ qAW := qm 1128 (by decide +kernel) rfl
theorem ml_X6_151 : Cond.methodLink RX6 151 yX6_counted ∈ qAW := qm 1132 (by decide +kernel) rfl
theorem ml_L_205 : Cond.methodLink RL 205 yX6_stateOf ∈ qAW := qm 1136 (by decide +kernel) rfl
theorem ml_L_208 : Cond.methodLink RL 208 yX6_appointmentOf ∈ qAW := qm 1140 (by decide +kernel) rfl
theorem ml_L_211 : Cond.methodLink RL 211 yX6_inLane ∈ qAW := qm 1144 (by decide +kernel) rfl
theorem ml_L_214 : Cond.methodLink RL 214 yX6_firstHour ∈ qAW := qm 1148 (by decide +kernel) rfl
theorem ml_L_217 : Cond.methodLink RL 217 yX6_pass ∈ qAW := qm 1152 (by decide +kernel) rfl
theorem ml_X6_159 : Cond.methodLink RX6 159 yX6_leaves ∈ qAW := qm 1156 (by decide +kernel) rfl
theorem ml_L_221 : Cond.methodLink RL 221 yX6_now ∈ qAW := qm 1160 (by decide +kernel) rfl
theorem ml_L_226 : Cond.methodLink RL 226 yX6_weightLeft ∈ qAW := qm 1164 (by decide +kernel) rfl
theorem ml_L_230 : Cond.methodLink RL 230 yX6_doneShare ∈ qAW := qm 1168 (by decide +kernel) rfl
theorem fl_X0_9 : Cond.fieldLink RX0 9 (TX0 0).1 (TX0 0).2.1 (TX0 0).2.2.1 ∈ qAW := qm 72 (by decide +kernel) rfl
theorem fl_X0_15 : Cond.fieldLink RX0 15 (TX0 1).1 (TX0 1).2.1 (TX0 1).2.2.1 ∈ qAW := qm 73 (by decide +kernel) rfl
theorem fl_X0_19 : Cond.fieldLink RX0 19 (TX0 2).1 (TX0 2).2.1 (TX0 2).2.2.1 ∈ qAW := qm 74 (by decide +kernel) rfl
theorem fl_X0_22 : Cond.fieldLink RX0 22 (TX0 3).1 (TX0 3).2.1 (TX0 3).2.2.1 ∈ qAW := qm 75 (by decide +kernel) rfl
theorem fl_X4_24 : Cond.fieldLink RX4 24 (TX4 0).1 (TX4 0).2.1 (TX4 0).2.2.1 ∈ qAW := qm 93 (by decide +kernel) rfl
theorem fl_X4_9 : Cond.fieldLink RX4 9 (TX4 1).1 (TX4 1).2.1 (TX4 1).2.2.1 ∈ qAW := qm 94 (by decide +kernel) rfl
theorem fl_X4_15 : Cond.fieldLink RX4 15 (TX4 2).1 (TX4 2).2.1 (TX4 2).2.2.1 ∈ qAW := qm 95 (by decide +kernel) rfl
theorem fl_X4_18 : Cond.fieldLink RX4 18 (TX4 3).1 (TX4 3).2.1 (TX4 3).2.2.1 ∈ qAW := qm 96 (by decide +kernel) rfl
theorem fl_X4_21 : Cond.fieldLink RX4 21 (TX4 4).1 (TX4 4).2.1 (TX4 4).2.2.1 ∈ qAW := qm 97 (by decide +kernel) rfl
theorem fl_X4_34 : Cond.fieldLink RX4 34 (TX4 5).1 (TX4 5).2.1 (TX4 5).2.2.1 ∈ qAW := qm 98 (by decide +kernel) rfl
theorem fl_X4_38 : Cond.fieldLink RX4 38 (TX4 6).1 (TX4 6).2.1 (TX4 6).2.2.1 ∈ qAW := qm 99 (by decide +kernel) rfl
theorem fl_X2_9 : Cond.fieldLink RX2 9 (TX2 0).1 (TX2 0).2.1 (TX2 0).2.2.1 ∈ qAW := qm 127 (by decide +kernel) rfl
theorem fl_X2_13 : Cond.fieldLink RX2 13 (TX2 1).1 (TX2 1).2.1 (TX2 1).2.2.1 ∈ qAW := qm 128 (by decide +kernel) rfl
theorem fl_X3_18 : Cond.fieldLink RX3 18 (TX3 0).1 (TX3 0).2.1 (TX3 0).2.2.1 ∈ qAW := qm 135 (by decide +kernel) rfl
theorem fl_X3_22 : Cond.fieldLink RX3 22 (TX3 1).1 (TX3 1).2.1 (TX3 1).2.2.1 ∈ qAW := qm 136 (by decide +kernel) rfl
theorem fl_X3_14 : Cond.fieldLink RX3 14 (TX3 2).1 (TX3 2).2.1 (TX3 2).2.2.1 ∈ qAW := qm 137 (by decide +kernel) rfl
theorem fl_X3_57 : Cond.fieldLink RX3 57 (TX3 3).1 (TX3 3).2.1 (TX3 3).2.2.1 ∈ qAW := qm 138 (by decide +kernel) rfl
theorem fl_X1_9 : Cond.fieldLink RX1 9 (TX1 0).1 (TX1 0).2.1 (TX1 0).2.2.1 ∈ qAW := qm 154 (by decide +kernel) rfl
theorem fl_X1_15 : Cond.fieldLink RX1 15 (TX1 1).1 (TX1 1).2.1 (TX1 1).2.2.1 ∈ qAW := qm 155 (by decide +kernel) rfl
theorem fl_X1_18 : Cond.fieldLink RX1 18 (TX1 2).1 (TX1 2).2.1 (TX1 2).2.2.1 ∈ qAW := qm 156 (by decide +kernel) rfl
theorem fl_X1_21 : Cond.fieldLink RX1 21 (TX1 3).1 (TX1 3).2.1 (TX1 3).2.2.1 ∈ qAW := qm 157 (by decide +kernel) rfl
theorem fl_X1_25 : Cond.fieldLink RX1 25 (TX1 4).1 (TX1 4).2.1 (TX1 4).2.2.1 ∈ qAW := qm 158 (by decide +kernel) rfl
theorem fl_X5_15 : Cond.fieldLink RX5 15 (TX5 0).1 (TX5 0).2.1 (TX5 0).2.2.1 ∈ qAW := qm 170 (by decide +kernel) rfl
theorem fl_X5_21 : Cond.fieldLink RX5 21 (TX5 1).1 (TX5 1).2.1 (TX5 1).2.2.1 ∈ qAW := qm 171 (by decide +kernel) rfl
theorem fl_X5_30 : Cond.fieldLink RX5 30 (TX5 2).1 (TX5 2).2.1 (TX5 2).2.2.1 ∈ qAW := qm 172 (by decide +kernel) rfl
theorem fl_X5_37 : Cond.fieldLink RX5 37 (TX5 3).1 (TX5 3).2.1 (TX5 3).2.2.1 ∈ qAW := qm 173 (by decide +kernel) rfl
theorem fl_X5_124 : Cond.fieldLink RX5 124 (TX5 4).1 (TX5 4).2.1 (TX5 4).2.2.1 ∈ qAW := qm 174 (by decide +kernel) rfl
theorem fl_X5_164 : Cond.fieldLink RX5 164 (TX5 5).1 (TX5 5).2.1 (TX5 5).2.2.1 ∈ qAW := qm 175 (by decide +kernel) rfl
theorem fl_X5_249 : Cond.fieldLink RX5 249 (TX5 6).1 (TX5 6).2.1 (TX5 6).2.2.1 ∈ qAW := qm 176 (by decide +kernel) rfl
theorem fl_X6_48 : Cond.fieldLink RX6 48 (TX6 0).1 (TX6 0).2.1 (TX6 0).2.2.1 ∈ qAW := qm 870 (by decide +kernel) rfl
theorem fl_X6_126 : Cond.fieldLink RX6 126 (TX6 1).1 (TX6 1).2.1 (TX6 1).2.2.1 ∈ qAW := qm 871 (by decide +kernel) rfl
theorem fl_X6_59 : Cond.fieldLink RX6 59 (TX6 2).1 (TX6 2).2.1 (TX6 2).2.2.1 ∈ qAW := qm 872 (by decide +kernel) rfl
theorem fl_X6_7 : Cond.fieldLink RX6 7 (TX6 3).1 (TX6 3).2.1 (TX6 3).2.2.1 ∈ qAW := qm 873 (by decide +kernel) rfl
theorem fl_X6_52 : Cond.fieldLink RX6 52 (TX6 4).1 (TX6 4).2.1 (TX6 4).2.2.1 ∈ qAW := qm 874 (by decide +kernel) rfl
theorem fl_X6_13 : Cond.fieldLink RX6 13 (TX6 5).1 (TX6 5).2.1 (TX6 5).2.2.1 ∈ qAW := qm 875 (by decide +kernel) rfl
theorem fl_X6_16 : Cond.fieldLink RX6 16 (TX6 6).1 (TX6 6).2.1 (TX6 6).2.2.1 ∈ qAW := qm 876 (by decide +kernel) rfl
theorem fl_X6_20 : Cond.fieldLink RX6 20 (TX6 7).1 (TX6 7).2.1 (TX6 7).2.2.1 ∈ qAW := qm 877 (by decide +kernel) rfl
theorem fl_X6_24 : Cond.fieldLink RX6 24 (TX6 8).1 (TX6 8).2.1 (TX6 8).2.2.1 ∈ qAW := qm 878 (by decide +kernel) rfl
theorem fl_X6_27 : Cond.fieldLink RX6 27 (TX6 9).1 (TX6 9).2.1 (TX6 9).2.2.1 ∈ qAW := qm 879 (by decide +kernel) rfl
theorem fl_X6_30 : Cond.fieldLink RX6 30 (TX6 10).1 (TX6 10).2.1 (TX6 10).2.2.1 ∈ qAW := qm 880 (by decide +kernel) rfl
theorem fl_X6_33 : Cond.fieldLink RX6 33 (TX6 11).1 (TX6 11).2.1 (TX6 11).2.2.1 ∈ qAW := qm 881 (by decide +kernel) rfl
theorem fl_X6_108 : Cond.fieldLink RX6 108 (TX6 12).1 (TX6 12).2.1 (TX6 12).2.2.1 ∈ qAW := qm 882 (by decide +kernel) rfl
theorem fl_X6_123 : Cond.fieldLink RX6 123 (TX6 13).1 (TX6 13).2.1 (TX6 13).2.2.1 ∈ qAW := qm 883 (by decide +kernel) rfl
theorem fl_X6_36 : Cond.fieldLink RX6 36 (TX6 14).1 (TX6 14).2.1 (TX6 14).2.2.1 ∈ qAW := qm 884 (by decide +kernel) rfl
theorem fl_X6_39 : Cond.fieldLink RX6 39 (TX6 15).1 (TX6 15).2.1 (TX6 15).2.2.1 ∈ qAW := qm 885 (by decide +kernel) rfl
theorem fl_X6_42 : Cond.fieldLink RX6 42 (TX6 16).1 (TX6 16).2.1 (TX6 16).2.2.1 ∈ qAW := qm 886 (by decide +kernel) rfl
theorem fl_X6_45 : Cond.fieldLink RX6 45 (TX6 17).1 (TX6 17).2.1 (TX6 17).2.2.1 ∈ qAW := qm 887 (by decide +kernel) rfl
theorem fl_X6_155 : Cond.fieldLink RX6 155 (TX6 18).1 (TX6 18).2.1 (TX6 18).2.2.1 ∈ qAW := qm 888 (by decide +kernel) rfl
theorem tk_IllegalArgumentException : Cond.classLink RX5 41 "java/lang/IllegalArgumentException" ∈ qAW := qm 229 (by decide +kernel) rfl
theorem ti_IllegalArgumentException : Cond.initialized "java/lang/IllegalArgumentException" ∈ qAW := qm 52 (by decide +kernel) rfl
theorem ta_IllegalArgumentException : ∀ w ∈ vx_atS RX5 45 "java/lang/IllegalArgumentException" ["java/lang/RuntimeException", "java/lang/Exception"], w ∈ qAW ∨ w ∈ qNg := by
  have h : (vx_atS RX5 45 "java/lang/IllegalArgumentException" ["java/lang/RuntimeException", "java/lang/Exception"]).all (fun w => decide (w ∈ lw_tbl) && (goodWord w || qNgw w)) = true := by decide +kernel
  intro w hw
  have h1 := List.all_eq_true.mp h w hw
  simp only [Bool.and_eq_true, Bool.or_eq_true, decide_eq_true_eq] at h1
  rcases h1 with ⟨h1, h2 | h2⟩
  · exact Or.inl (List.mem_filter.mpr ⟨h1, h2⟩)
  · exact Or.inr (List.mem_filter.mpr ⟨h1, h2⟩)
theorem tg_IllegalArgumentException : ∀ w ∈ Cond.classLink RX5 41 "java/lang/IllegalArgumentException" :: Cond.initialized "java/lang/IllegalArgumentException" :: vx_atS RX5 45 "java/lang/IllegalArgumentException" ["java/lang/RuntimeException", "java/lang/Exception"], vx_ot w = true := by decide +kernel
theorem tk_IllegalStateException : Cond.classLink RX5 52 "java/lang/IllegalStateException" ∈ qAW := qm 303 (by decide +kernel) rfl
theorem ti_IllegalStateException : Cond.initialized "java/lang/IllegalStateException" ∈ qAW := qm 53 (by decide +kernel) rfl
theorem ta_IllegalStateException : ∀ w ∈ vx_atS RX5 56 "java/lang/IllegalStateException" ["java/lang/RuntimeException", "java/lang/Exception"], w ∈ qAW ∨ w ∈ qNg := by
  have h : (vx_atS RX5 56 "java/lang/IllegalStateException" ["java/lang/RuntimeException", "java/lang/Exception"]).all (fun w => decide (w ∈ lw_tbl) && (goodWord w || qNgw w)) = true := by decide +kernel
  intro w hw
  have h1 := List.all_eq_true.mp h w hw
  simp only [Bool.and_eq_true, Bool.or_eq_true, decide_eq_true_eq] at h1
  rcases h1 with ⟨h1, h2 | h2⟩
  · exact Or.inl (List.mem_filter.mpr ⟨h1, h2⟩)
  · exact Or.inr (List.mem_filter.mpr ⟨h1, h2⟩)
theorem tg_IllegalStateException : ∀ w ∈ Cond.classLink RX5 52 "java/lang/IllegalStateException" :: Cond.initialized "java/lang/IllegalStateException" :: vx_atS RX5 56 "java/lang/IllegalStateException" ["java/lang/RuntimeException", "java/lang/Exception"], vx_ot w = true := by decide +kernel
theorem tk_UnsupportedOperationException : Cond.classLink RX5 75 "java/lang/UnsupportedOperationException" ∈ qAW := qm 373 (by decide +kernel) rfl
theorem ti_UnsupportedOperationException : Cond.initialized "java/lang/UnsupportedOperationException" ∈ qAW := qm 55 (by decide +kernel) rfl
theorem ta_UnsupportedOperationException : ∀ w ∈ vx_atS RX5 79 "java/lang/UnsupportedOperationException" ["java/lang/RuntimeException", "java/lang/Exception"], w ∈ qAW ∨ w ∈ qNg := by
  have h : (vx_atS RX5 79 "java/lang/UnsupportedOperationException" ["java/lang/RuntimeException", "java/lang/Exception"]).all (fun w => decide (w ∈ lw_tbl) && (goodWord w || qNgw w)) = true := by decide +kernel
  intro w hw
  have h1 := List.all_eq_true.mp h w hw
  simp only [Bool.and_eq_true, Bool.or_eq_true, decide_eq_true_eq] at h1
  rcases h1 with ⟨h1, h2 | h2⟩
  · exact Or.inl (List.mem_filter.mpr ⟨h1, h2⟩)
  · exact Or.inr (List.mem_filter.mpr ⟨h1, h2⟩)
theorem tg_UnsupportedOperationException : ∀ w ∈ Cond.classLink RX5 75 "java/lang/UnsupportedOperationException" :: Cond.initialized "java/lang/UnsupportedOperationException" :: vx_atS RX5 79 "java/lang/UnsupportedOperationException" ["java/lang/RuntimeException", "java/lang/Exception"], vx_ot w = true := by decide +kernel
theorem tk_IndexOutOfBoundsException : Cond.classLink RX5 258 "java/lang/IndexOutOfBoundsException" ∈ qAW := qm 340 (by decide +kernel) rfl
theorem ti_IndexOutOfBoundsException : Cond.initialized "java/lang/IndexOutOfBoundsException" ∈ qAW := qm 54 (by decide +kernel) rfl
theorem ta_IndexOutOfBoundsException : ∀ w ∈ vx_atS RX5 262 "java/lang/IndexOutOfBoundsException" ["java/lang/RuntimeException", "java/lang/Exception"], w ∈ qAW ∨ w ∈ qNg := by
  have h : (vx_atS RX5 262 "java/lang/IndexOutOfBoundsException" ["java/lang/RuntimeException", "java/lang/Exception"]).all (fun w => decide (w ∈ lw_tbl) && (goodWord w || qNgw w)) = true := by decide +kernel
  intro w hw
  have h1 := List.all_eq_true.mp h w hw
  simp only [Bool.and_eq_true, Bool.or_eq_true, decide_eq_true_eq] at h1
  rcases h1 with ⟨h1, h2 | h2⟩
  · exact Or.inl (List.mem_filter.mpr ⟨h1, h2⟩)
  · exact Or.inr (List.mem_filter.mpr ⟨h1, h2⟩)
theorem tg_IndexOutOfBoundsException : ∀ w ∈ Cond.classLink RX5 258 "java/lang/IndexOutOfBoundsException" :: Cond.initialized "java/lang/IndexOutOfBoundsException" :: vx_atS RX5 262 "java/lang/IndexOutOfBoundsException" ["java/lang/RuntimeException", "java/lang/Exception"], vx_ot w = true := by decide +kernel
theorem tk_NoSuchElementException : Cond.classLink RX5 117 "java/util/NoSuchElementException" ∈ qAW := qm 480 (by decide +kernel) rfl
theorem ti_NoSuchElementException : Cond.initialized "java/util/NoSuchElementException" ∈ qAW := qm 56 (by decide +kernel) rfl
