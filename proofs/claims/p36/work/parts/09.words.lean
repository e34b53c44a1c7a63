/-! the tables words of each method, link and throw, by their places -/
theorem qm {w : Cond} (i : Nat) (h : lw_tbl[i]? = some w) (hg : goodWord w = true) : w ∈ qAW := List.mem_filter.mpr ⟨List.mem_of_getElem? h, hg⟩
theorem in_X0 : ∀ w ∈ u_ws RX0 TX0 4, w ∈ qAW := by
  intro w hw
  have h : u_ws RX0 TX0 4 = [49, 51, 53, 55].filterMap (fun i => lw_tbl[i]?) := by decide +kernel
  have h2 : (u_ws RX0 TX0 4).all goodWord = true := by decide +kernel
  have h3 := List.all_eq_true.mp h2 w hw
  rw [h] at hw
  obtain ⟨i, -, hi⟩ := List.mem_filterMap.mp hw
  exact List.mem_filter.mpr ⟨List.mem_of_getElem? hi, h3⟩
theorem in_X1 : ∀ w ∈ u_ws RX1 TX1 5, w ∈ qAW := by
  intro w hw
  have h : u_ws RX1 TX1 5 = [132, 134, 136, 138, 140].filterMap (fun i => lw_tbl[i]?) := by decide +kernel
  have h2 : (u_ws RX1 TX1 5).all goodWord = true := by decide +kernel
  have h3 := List.all_eq_true.mp h2 w hw
  rw [h] at hw
  obtain ⟨i, -, hi⟩ := List.mem_filterMap.mp hw
  exact List.mem_filter.mpr ⟨List.mem_of_getElem? hi, h3⟩
theorem in_X2 : ∀ w ∈ u_ws RX2 TX2 2, w ∈ qAW := by
  intro w hw
  have h : u_ws RX2 TX2 2 = [102, 104].filterMap (fun i => lw_tbl[i]?) := by decide +kernel
  have h2 : (u_ws RX2 TX2 2).all goodWord = true := by decide +kernel
  have h3 := List.all_eq_true.mp h2 w hw
  rw [h] at hw
  obtain ⟨i, -, hi⟩ := List.mem_filterMap.mp hw
  exact List.mem_filter.mpr ⟨List.mem_of_getElem? hi, h3⟩
theorem in_X3 : ∀ w ∈ u_ws RX3 TX3 4, w ∈ qAW := by
  intro w hw
  have h : u_ws RX3 TX3 4 = [112, 114, 116, 118].filterMap (fun i => lw_tbl[i]?) := by decide +kernel
  have h2 : (u_ws RX3 TX3 4).all goodWord = true := by decide +kernel
  have h3 := List.all_eq_true.mp h2 w hw
  rw [h] at hw
  obtain ⟨i, -, hi⟩ := List.mem_filterMap.mp hw
  exact List.mem_filter.mpr ⟨List.mem_of_getElem? hi, h3⟩
theorem in_X4 : ∀ w ∈ u_ws RX4 TX4 7, w ∈ qAW := by
  intro w hw
  have h : u_ws RX4 TX4 7 = [73, 75, 77, 79, 81, 83, 85].filterMap (fun i => lw_tbl[i]?) := by decide +kernel
  have h2 : (u_ws RX4 TX4 7).all goodWord = true := by decide +kernel
  have h3 := List.all_eq_true.mp h2 w hw
  rw [h] at hw
  obtain ⟨i, -, hi⟩ := List.mem_filterMap.mp hw
  exact List.mem_filter.mpr ⟨List.mem_of_getElem? hi, h3⟩
theorem in_X5 : ∀ w ∈ u_ws RX5 TX5 7, w ∈ qAW := by
  intro w hw
  have h : u_ws RX5 TX5 7 = [150, 152, 154, 156, 158, 160, 162].filterMap (fun i => lw_tbl[i]?) := by decide +kernel
  have h2 : (u_ws RX5 TX5 7).all goodWord = true := by decide +kernel
  have h3 := List.all_eq_true.mp h2 w hw
  rw [h] at hw
  obtain ⟨i, -, hi⟩ := List.mem_filterMap.mp hw
  exact List.mem_filter.mpr ⟨List.mem_of_getElem? hi, h3⟩
theorem mX0_come : qMth yX0_come (.code yX0_come cX0_come 1 (some .int)) cX0_come 1 (some .int) 0 := ⟨rfl, qm 367 (by decide +kernel) rfl, qm 365 (by decide +kernel) rfl, qm 366 (by decide +kernel) rfl, qm 17 (by decide +kernel) rfl, (by decide +kernel), (by decide +kernel)⟩
theorem mX0_register : qMth yX0_register (.code yX0_register cX0_register 3 (some .int)) cX0_register 3 (some .int) 1 := ⟨rfl, qm 372 (by decide +kernel) rfl, qm 370 (by decide +kernel) rfl, qm 371 (by decide +kernel) rfl, qm 17 (by decide +kernel) rfl, (by decide +kernel), (by decide +kernel)⟩
theorem mX0_weightOf : qMth yX0_weightOf (.code yX0_weightOf cX0_weightOf 2 (some .int)) cX0_weightOf 2 (some .int) 1 := ⟨rfl, qm 347 (by decide +kernel) rfl, qm 345 (by decide +kernel) rfl, qm 346 (by decide +kernel) rfl, qm 17 (by decide +kernel) rfl, (by decide +kernel), (by decide +kernel)⟩
theorem mX0_holdKind : qMth yX0_holdKind (.code yX0_holdKind cX0_holdKind 2 (some .char)) cX0_holdKind 2 (some .char) 1 := ⟨rfl, qm 486 (by decide +kernel) rfl, qm 484 (by decide +kernel) rfl, qm 485 (by decide +kernel) rfl, qm 17 (by decide +kernel) rfl, (by decide +kernel), (by decide +kernel)⟩
theorem mX0_holdEnd : qMth yX0_holdEnd (.code yX0_holdEnd cX0_holdEnd 2 (some .int)) cX0_holdEnd 2 (some .int) 1 := ⟨rfl, qm 490 (by decide +kernel) rfl, qm 488 (by decide +kernel) rfl, qm 489 (by decide +kernel) rfl, qm 17 (by decide +kernel) rfl, (by decide +kernel), (by decide +kernel)⟩
theorem mX0_isHeld : qMth yX0_isHeld (.code yX0_isHeld cX0_isHeld 2 (some .boolean)) cX0_isHeld 2 (some .boolean) 1 := ⟨rfl, qm 482 (by decide +kernel) rfl, qm 480 (by decide +kernel) rfl, qm 481 (by decide +kernel) rfl, qm 17 (by decide +kernel) rfl, (by decide +kernel), (by decide +kernel)⟩
theorem mX0_isPinned : qMth yX0_isPinned (.code yX0_isPinned cX0_isPinned 2 (some .boolean)) cX0_isPinned 2 (some .boolean) 1 := ⟨rfl, qm 523 (by decide +kernel) rfl, qm 521 (by decide +kernel) rfl, qm 522 (by decide +kernel) rfl, qm 17 (by decide +kernel) rfl, (by decide +kernel), (by decide +kernel)⟩
theorem mX0_isHeldIn : qMth yX0_isHeldIn (.code yX0_isHeldIn cX0_isHeldIn 3 (some .boolean)) cX0_isHeldIn 3 (some .boolean) 2 := ⟨rfl, qm 478 (by decide +kernel) rfl, qm 476 (by decide +kernel) rfl, qm 477 (by decide +kernel) rfl, qm 17 (by decide +kernel) rfl, (by decide +kernel), (by decide +kernel)⟩
theorem mX0_putHold : qMth yX0_putHold (.code yX0_putHold cX0_putHold 4 none) cX0_putHold 4 none 3 := ⟨rfl, qm 380 (by decide +kernel) rfl, qm 378 (by decide +kernel) rfl, qm 379 (by decide +kernel) rfl, qm 17 (by decide +kernel) rfl, (by decide +kernel), (by decide +kernel)⟩
theorem mX0_endHold : qMth yX0_endHold (.code yX0_endHold cX0_endHold 2 none) cX0_endHold 2 none 1 := ⟨rfl, qm 376 (by decide +kernel) rfl, qm 374 (by decide +kernel) rfl, qm 375 (by decide +kernel) rfl, qm 17 (by decide +kernel) rfl, (by decide +kernel), (by decide +kernel)⟩
theorem mX0_endHoldsOf : qMth yX0_endHoldsOf (.code yX0_endHoldsOf cX0_endHoldsOf 3 none) cX0_endHoldsOf 3 none 1 := ⟨rfl, qm 745 (by decide +kernel) rfl, qm 743 (by decide +kernel) rfl, qm 744 (by decide +kernel) rfl, qm 17 (by decide +kernel) rfl, (by decide +kernel), (by decide +kernel)⟩
theorem mX1_count : qMth yX1_count (.code yX1_count cX1_count 1 (some .int)) cX1_count 1 (some .int) 0 := ⟨rfl, qm 689 (by decide +kernel) rfl, qm 687 (by decide +kernel) rfl, qm 688 (by decide +kernel) rfl, qm 21 (by decide +kernel) rfl, (by decide +kernel), (by decide +kernel)⟩
theorem mX1_register : qMth yX1_register (.code yX1_register cX1_register 5 (some .int)) cX1_register 5 (some .int) 3 := ⟨rfl, qm 694 (by decide +kernel) rfl, qm 692 (by decide +kernel) rfl, qm 693 (by decide +kernel) rfl, qm 21 (by decide +kernel) rfl, (by decide +kernel), (by decide +kernel)⟩
theorem mX1_has : qMth yX1_has (.code yX1_has cX1_has 2 (some .boolean)) cX1_has 2 (some .boolean) 1 := ⟨rfl, qm 474 (by decide +kernel) rfl, qm 473 (by decide +kernel) rfl, qm 4 (by decide +kernel) rfl, qm 21 (by decide +kernel) rfl, (by decide +kernel), (by decide +kernel)⟩
theorem mX1_boxOf : qMth yX1_boxOf (.code yX1_boxOf cX1_boxOf 2 (some .int)) cX1_boxOf 2 (some .int) 1 := ⟨rfl, qm 753 (by decide +kernel) rfl, qm 751 (by decide +kernel) rfl, qm 752 (by decide +kernel) rfl, qm 21 (by decide +kernel) rfl, (by decide +kernel), (by decide +kernel)⟩
theorem mX1_hourOf : qMth yX1_hourOf (.code yX1_hourOf cX1_hourOf 2 (some .int)) cX1_hourOf 2 (some .int) 1 := ⟨rfl, qm 470 (by decide +kernel) rfl, qm 468 (by decide +kernel) rfl, qm 469 (by decide +kernel) rfl, qm 21 (by decide +kernel) rfl, (by decide +kernel), (by decide +kernel)⟩
theorem mX1_state : qMth yX1_state (.code yX1_state cX1_state 2 (some .char)) cX1_state 2 (some .char) 1 := ⟨rfl, qm 707 (by decide +kernel) rfl, qm 705 (by decide +kernel) rfl, qm 706 (by decide +kernel) rfl, qm 21 (by decide +kernel) rfl, (by decide +kernel), (by decide +kernel)⟩
theorem mX1_turn : qMth yX1_turn (.code yX1_turn cX1_turn 3 none) cX1_turn 3 none 2 := ⟨rfl, qm 494 (by decide +kernel) rfl, qm 492 (by decide +kernel) rfl, qm 493 (by decide +kernel) rfl, qm 21 (by decide +kernel) rfl, (by decide +kernel), (by decide +kernel)⟩
theorem mX1_bookedFor : qMth yX1_bookedFor (.code yX1_bookedFor cX1_bookedFor 3 (some .int)) cX1_bookedFor 3 (some .int) 1 := ⟨rfl, qm 466 (by decide +kernel) rfl, qm 464 (by decide +kernel) rfl, qm 465 (by decide +kernel) rfl, qm 21 (by decide +kernel) rfl, (by decide +kernel), (by decide +kernel)⟩
theorem mX1_bookedAt : qMth yX1_bookedAt (.code yX1_bookedAt cX1_bookedAt 4 (some .int)) cX1_bookedAt 4 (some .int) 2 := ⟨rfl, qm 684 (by decide +kernel) rfl, qm 682 (by decide +kernel) rfl, qm 683 (by decide +kernel) rfl, qm 21 (by decide +kernel) rfl, (by decide +kernel), (by decide +kernel)⟩
theorem mX1_hasFreeLane : qMth yX1_hasFreeLane (.code yX1_hasFreeLane cX1_hasFreeLane 3 (some .boolean)) cX1_hasFreeLane 3 (some .boolean) 1 := ⟨rfl, qm 734 (by decide +kernel) rfl, qm 732 (by decide +kernel) rfl, qm 733 (by decide +kernel) rfl, qm 21 (by decide +kernel) rfl, (by decide +kernel), (by decide +kernel)⟩
theorem mX1_countIn : qMth yX1_countIn (.code yX1_countIn cX1_countIn 4 (some .int)) cX1_countIn 4 (some .int) 1 := ⟨rfl, qm 712 (by decide +kernel) rfl, qm 710 (by decide +kernel) rfl, qm 711 (by decide +kernel) rfl, qm 21 (by decide +kernel) rfl, (by decide +kernel), (by decide +kernel)⟩
theorem mX2_isEmpty : qMth yX2_isEmpty (.code yX2_isEmpty cX2_isEmpty 1 (some .boolean)) cX2_isEmpty 1 (some .boolean) 0 := ⟨rfl, qm 578 (by decide +kernel) rfl, qm 576 (by decide +kernel) rfl, qm 577 (by decide +kernel) rfl, qm 20 (by decide +kernel) rfl, (by decide +kernel), (by decide +kernel)⟩
theorem mX2_clear : qMth yX2_clear (.code yX2_clear cX2_clear 1 none) cX2_clear 1 none 0 := ⟨rfl, qm 567 (by decide +kernel) rfl, qm 565 (by decide +kernel) rfl, qm 566 (by decide +kernel) rfl, qm 20 (by decide +kernel) rfl, (by decide +kernel), (by decide +kernel)⟩
theorem mX2_add : qMth yX2_add (.code yX2_add cX2_add 4 none) cX2_add 4 none 1 := ⟨rfl, qm 574 (by decide +kernel) rfl, qm 572 (by decide +kernel) rfl, qm 573 (by decide +kernel) rfl, qm 20 (by decide +kernel) rfl, (by decide +kernel), (by decide +kernel)⟩
theorem mX2_takeFirst : qMth yX2_takeFirst (.code yX2_takeFirst cX2_takeFirst 3 (some .long)) cX2_takeFirst 3 (some .long) 0 := ⟨rfl, qm 582 (by decide +kernel) rfl, qm 580 (by decide +kernel) rfl, qm 581 (by decide +kernel) rfl, qm 20 (by decide +kernel) rfl, (by decide +kernel), (by decide +kernel)⟩
theorem mX2_sinkFromTop : qMth yX2_sinkFromTop (.code yX2_sinkFromTop cX2_sinkFromTop 5 none) cX2_sinkFromTop 5 none 1 := ⟨rfl, qm 586 (by decide +kernel) rfl, qm 585 (by decide +kernel) rfl, qm 7 (by decide +kernel) rfl, qm 20 (by decide +kernel) rfl, (by decide +kernel), (by decide +kernel)⟩
theorem mX3_find : qMth yX3_find (.code yX3_find cX3_find 6 (some .boolean)) cX3_find 6 (some .boolean) 1 := ⟨rfl, qm 562 (by decide +kernel) rfl, qm 560 (by decide +kernel) rfl, qm 561 (by decide +kernel) rfl, qm 19 (by decide +kernel) rfl, (by decide +kernel), (by decide +kernel)⟩
theorem mX3_length : qMth yX3_length (.code yX3_length cX3_length 1 (some .int)) cX3_length 1 (some .int) 0 := ⟨rfl, qm 629 (by decide +kernel) rfl, qm 627 (by decide +kernel) rfl, qm 628 (by decide +kernel) rfl, qm 19 (by decide +kernel) rfl, (by decide +kernel), (by decide +kernel)⟩
theorem mX3_boxMoved : qMth yX3_boxMoved (.code yX3_boxMoved cX3_boxMoved 2 (some .int)) cX3_boxMoved 2 (some .int) 1 := ⟨rfl, qm 653 (by decide +kernel) rfl, qm 651 (by decide +kernel) rfl, qm 652 (by decide +kernel) rfl, qm 19 (by decide +kernel) rfl, (by decide +kernel), (by decide +kernel)⟩
theorem mX3_stackReached : qMth yX3_stackReached (.code yX3_stackReached cX3_stackReached 2 (some .int)) cX3_stackReached 2 (some .int) 1 := ⟨rfl, qm 661 (by decide +kernel) rfl, qm 659 (by decide +kernel) rfl, qm 660 (by decide +kernel) rfl, qm 19 (by decide +kernel) rfl, (by decide +kernel), (by decide +kernel)⟩
theorem mX3_lengthByTrying : qMth yX3_lengthByTrying (.code yX3_lengthByTrying cX3_lengthByTrying 2 (some .int)) cX3_lengthByTrying 2 (some .int) 1 := ⟨rfl, qm 637 (by decide +kernel) rfl, qm 635 (by decide +kernel) rfl, qm 636 (by decide +kernel) rfl, qm 19 (by decide +kernel) rfl, (by decide +kernel), (by decide +kernel)⟩
theorem mX3_fewestMoves : qMts yX3_fewestMoves (.code yX3_fewestMoves cX3_fewestMoves 9 (some .int)) cX3_fewestMoves 9 (some .int) 3 := ⟨rfl, qm 640 (by decide +kernel) rfl, qm 639 (by decide +kernel) rfl, qm 19 (by decide +kernel) rfl, (by decide +kernel), (by decide +kernel)⟩
theorem mX3_layOut : qMth yX3_layOut (.code yX3_layOut cX3_layOut 5 none) cX3_layOut 5 none 1 := ⟨rfl, qm 596 (by decide +kernel) rfl, qm 595 (by decide +kernel) rfl, qm 8 (by decide +kernel) rfl, qm 19 (by decide +kernel) rfl, (by decide +kernel), (by decide +kernel)⟩
theorem mX3_addNextMoves : qMth yX3_addNextMoves (.code yX3_addNextMoves cX3_addNextMoves 10 none) cX3_addNextMoves 10 none 3 := ⟨rfl, qm 615 (by decide +kernel) rfl, qm 614 (by decide +kernel) rfl, qm 9 (by decide +kernel) rfl, qm 19 (by decide +kernel) rfl, (by decide +kernel), (by decide +kernel)⟩
theorem mX3_extraNeed : qMts yX3_extraNeed (.code yX3_extraNeed cX3_extraNeed 3 (some .int)) cX3_extraNeed 3 (some .int) 3 := ⟨rfl, qm 620 (by decide +kernel) rfl, qm 619 (by decide +kernel) rfl, qm 19 (by decide +kernel) rfl, (by decide +kernel), (by decide +kernel)⟩
theorem mX3_begunWith : qMts yX3_begunWith (.code yX3_begunWith cX3_begunWith 1 (some .long)) cX3_begunWith 1 (some .long) 1 := ⟨rfl, qm 570 (by decide +kernel) rfl, qm 569 (by decide +kernel) rfl, qm 19 (by decide +kernel) rfl, (by decide +kernel), (by decide +kernel)⟩
theorem mX3_goneOn : qMts yX3_goneOn (.code yX3_goneOn cX3_goneOn 10 (some .long)) cX3_goneOn 10 (some .long) 4 := ⟨rfl, qm 624 (by decide +kernel) rfl, qm 623 (by decide +kernel) rfl, qm 19 (by decide +kernel) rfl, (by decide +kernel), (by decide +kernel)⟩
theorem mX3_needOf : qMts yX3_needOf (.code yX3_needOf cX3_needOf 2 (some .int)) cX3_needOf 2 (some .int) 1 := ⟨rfl, qm 589 (by decide +kernel) rfl, qm 588 (by decide +kernel) rfl, qm 19 (by decide +kernel) rfl, (by decide +kernel), (by decide +kernel)⟩
theorem mX3_lengthOf : qMts yX3_lengthOf (.code yX3_lengthOf cX3_lengthOf 2 (some .int)) cX3_lengthOf 2 (some .int) 1 := ⟨rfl, qm 592 (by decide +kernel) rfl, qm 591 (by decide +kernel) rfl, qm 19 (by decide +kernel) rfl, (by decide +kernel), (by decide +kernel)⟩
theorem mX3_moveOf : qMts yX3_moveOf (.code yX3_moveOf cX3_moveOf 3 (some .int)) cX3_moveOf 3 (some .int) 2 := ⟨rfl, qm 606 (by decide +kernel) rfl, qm 605 (by decide +kernel) rfl, qm 19 (by decide +kernel) rfl, (by decide +kernel), (by decide +kernel)⟩
theorem mX3_shiftOf : qMts yX3_shiftOf (.code yX3_shiftOf cX3_shiftOf 1 (some .int)) cX3_shiftOf 1 (some .int) 1 := ⟨rfl, qm 609 (by decide +kernel) rfl, qm 608 (by decide +kernel) rfl, qm 19 (by decide +kernel) rfl, (by decide +kernel), (by decide +kernel)⟩
theorem mX4_copyFrom : qMth yX4_copyFrom (.code yX4_copyFrom cX4_copyFrom 2 none) cX4_copyFrom 2 none 1 := ⟨rfl, qm 600 (by decide +kernel) rfl, qm 598 (by decide +kernel) rfl, qm 599 (by decide +kernel) rfl, qm 18 (by decide +kernel) rfl, (by decide +kernel), (by decide +kernel)⟩
theorem mX4_openStack : qMth yX4_openStack (.code yX4_openStack cX4_openStack 3 (some .int)) cX4_openStack 3 (some .int) 1 := ⟨rfl, qm 302 (by decide +kernel) rfl, qm 300 (by decide +kernel) rfl, qm 301 (by decide +kernel) rfl, qm 18 (by decide +kernel) rfl, (by decide +kernel), (by decide +kernel)⟩
theorem mX4_stackCount : qMth yX4_stackCount (.code yX4_stackCount cX4_stackCount 1 (some .int)) cX4_stackCount 1 (some .int) 0 := ⟨rfl, qm 282 (by decide +kernel) rfl, qm 280 (by decide +kernel) rfl, qm 281 (by decide +kernel) rfl, qm 18 (by decide +kernel) rfl, (by decide +kernel), (by decide +kernel)⟩
theorem mX4_boxCount : qMth yX4_boxCount (.code yX4_boxCount cX4_boxCount 1 (some .int)) cX4_boxCount 1 (some .int) 0 := ⟨rfl, qm 172 (by decide +kernel) rfl, qm 170 (by decide +kernel) rfl, qm 171 (by decide +kernel) rfl, qm 18 (by decide +kernel) rfl, (by decide +kernel), (by decide +kernel)⟩
theorem mX4_hasStack : qMth yX4_hasStack (.code yX4_hasStack cX4_hasStack 2 (some .boolean)) cX4_hasStack 2 (some .boolean) 1 := ⟨rfl, qm 314 (by decide +kernel) rfl, qm 312 (by decide +kernel) rfl, qm 313 (by decide +kernel) rfl, qm 18 (by decide +kernel) rfl, (by decide +kernel), (by decide +kernel)⟩
theorem mX4_heightOf : qMth yX4_heightOf (.code yX4_heightOf cX4_heightOf 2 (some .int)) cX4_heightOf 2 (some .int) 1 := ⟨rfl, qm 412 (by decide +kernel) rfl, qm 410 (by decide +kernel) rfl, qm 411 (by decide +kernel) rfl, qm 18 (by decide +kernel) rfl, (by decide +kernel), (by decide +kernel)⟩
theorem mX4_isFull : qMth yX4_isFull (.code yX4_isFull cX4_isFull 2 (some .boolean)) cX4_isFull 2 (some .boolean) 1 := ⟨rfl, qm 335 (by decide +kernel) rfl, qm 333 (by decide +kernel) rfl, qm 334 (by decide +kernel) rfl, qm 18 (by decide +kernel) rfl, (by decide +kernel), (by decide +kernel)⟩
theorem mX4_bears : qMth yX4_bears (.code yX4_bears cX4_bears 4 (some .boolean)) cX4_bears 4 (some .boolean) 2 := ⟨rfl, qm 339 (by decide +kernel) rfl, qm 337 (by decide +kernel) rfl, qm 338 (by decide +kernel) rfl, qm 18 (by decide +kernel) rfl, (by decide +kernel), (by decide +kernel)⟩
theorem mX4_stackWith : qMth yX4_stackWith (.code yX4_stackWith cX4_stackWith 2 (some .int)) cX4_stackWith 2 (some .int) 1 := ⟨rfl, qm 180 (by decide +kernel) rfl, qm 178 (by decide +kernel) rfl, qm 179 (by decide +kernel) rfl, qm 18 (by decide +kernel) rfl, (by decide +kernel), (by decide +kernel)⟩
theorem mX4_boxOn : qMth yX4_boxOn (.code yX4_boxOn cX4_boxOn 3 (some .int)) cX4_boxOn 3 (some .int) 2 := ⟨rfl, qm 416 (by decide +kernel) rfl, qm 414 (by decide +kernel) rfl, qm 415 (by decide +kernel) rfl, qm 18 (by decide +kernel) rfl, (by decide +kernel), (by decide +kernel)⟩
theorem mX4_topOf : qMth yX4_topOf (.code yX4_topOf cX4_topOf 2 (some .int)) cX4_topOf 2 (some .int) 1 := ⟨rfl, qm 343 (by decide +kernel) rfl, qm 341 (by decide +kernel) rfl, qm 342 (by decide +kernel) rfl, qm 18 (by decide +kernel) rfl, (by decide +kernel), (by decide +kernel)⟩
theorem mX4_boxesUnder : qMth yX4_boxesUnder (.code yX4_boxesUnder cX4_boxesUnder 4 (some .int)) cX4_boxesUnder 4 (some .int) 1 := ⟨rfl, qm 407 (by decide +kernel) rfl, qm 405 (by decide +kernel) rfl, qm 406 (by decide +kernel) rfl, qm 18 (by decide +kernel) rfl, (by decide +kernel), (by decide +kernel)⟩
theorem mX4_boxesOver : qMth yX4_boxesOver (.code yX4_boxesOver cX4_boxesOver 3 (some .int)) cX4_boxesOver 3 (some .int) 1 := ⟨rfl, qm 424 (by decide +kernel) rfl, qm 422 (by decide +kernel) rfl, qm 423 (by decide +kernel) rfl, qm 18 (by decide +kernel) rfl, (by decide +kernel), (by decide +kernel)⟩
theorem mX4_pinnedOver : qMth yX4_pinnedOver (.code yX4_pinnedOver cX4_pinnedOver 5 (some .int)) cX4_pinnedOver 5 (some .int) 1 := ⟨rfl, qm 519 (by decide +kernel) rfl, qm 517 (by decide +kernel) rfl, qm 518 (by decide +kernel) rfl, qm 18 (by decide +kernel) rfl, (by decide +kernel), (by decide +kernel)⟩
theorem mX4_reasonAgainst : qMth yX4_reasonAgainst (.code yX4_reasonAgainst cX4_reasonAgainst 4 (some .char)) cX4_reasonAgainst 4 (some .char) 2 := ⟨rfl, qm 531 (by decide +kernel) rfl, qm 529 (by decide +kernel) rfl, qm 530 (by decide +kernel) rfl, qm 18 (by decide +kernel) rfl, (by decide +kernel), (by decide +kernel)⟩
theorem mX4_put : qMth yX4_put (.code yX4_put cX4_put 3 none) cX4_put 3 none 2 := ⟨rfl, qm 384 (by decide +kernel) rfl, qm 382 (by decide +kernel) rfl, qm 383 (by decide +kernel) rfl, qm 18 (by decide +kernel) rfl, (by decide +kernel), (by decide +kernel)⟩
theorem mX4_take : qMth yX4_take (.code yX4_take cX4_take 3 none) cX4_take 3 none 1 := ⟨rfl, qm 549 (by decide +kernel) rfl, qm 547 (by decide +kernel) rfl, qm 548 (by decide +kernel) rfl, qm 18 (by decide +kernel) rfl, (by decide +kernel), (by decide +kernel)⟩
theorem mX4_shift : qMth yX4_shift (.code yX4_shift cX4_shift 4 none) cX4_shift 4 none 2 := ⟨rfl, qm 545 (by decide +kernel) rfl, qm 543 (by decide +kernel) rfl, qm 544 (by decide +kernel) rfl, qm 18 (by decide +kernel) rfl, (by decide +kernel), (by decide +kernel)⟩
theorem mX5_addStack : qMth yX5_addStack (.code yX5_addStack cX5_addStack 2 (some .int)) cX5_addStack 2 (some .int) 1 := ⟨rfl, qm 208 (by decide +kernel) rfl, qm 206 (by decide +kernel) rfl, qm 207 (by decide +kernel) rfl, qm 16 (by decide +kernel) rfl, (by decide +kernel), (by decide +kernel)⟩
theorem mX5_addBox : qMth yX5_addBox (.code yX5_addBox cX5_addBox 4 (some .int)) cX5_addBox 4 (some .int) 2 := ⟨rfl, qm 306 (by decide +kernel) rfl, qm 304 (by decide +kernel) rfl, qm 305 (by decide +kernel) rfl, qm 16 (by decide +kernel) rfl, (by decide +kernel), (by decide +kernel)⟩
theorem mX5_boxes : qMth yX5_boxes (.code yX5_boxes cX5_boxes 1 (some .int)) cX5_boxes 1 (some .int) 0 := ⟨rfl, qm 168 (by decide +kernel) rfl, qm 166 (by decide +kernel) rfl, qm 167 (by decide +kernel) rfl, qm 16 (by decide +kernel) rfl, (by decide +kernel), (by decide +kernel)⟩
theorem mX5_isInYard : qMth yX5_isInYard (.code yX5_isInYard cX5_isInYard 2 (some .boolean)) cX5_isInYard 2 (some .boolean) 1 := ⟨rfl, qm 176 (by decide +kernel) rfl, qm 174 (by decide +kernel) rfl, qm 175 (by decide +kernel) rfl, qm 16 (by decide +kernel) rfl, (by decide +kernel), (by decide +kernel)⟩
theorem mX5_weight : qMth yX5_weight (.code yX5_weight cX5_weight 2 (some .int)) cX5_weight 2 (some .int) 1 := ⟨rfl, qm 389 (by decide +kernel) rfl, qm 387 (by decide +kernel) rfl, qm 388 (by decide +kernel) rfl, qm 16 (by decide +kernel) rfl, (by decide +kernel), (by decide +kernel)⟩
theorem mX5_stackOf : qMth yX5_stackOf (.code yX5_stackOf cX5_stackOf 2 (some .int)) cX5_stackOf 2 (some .int) 1 := ⟨rfl, qm 399 (by decide +kernel) rfl, qm 397 (by decide +kernel) rfl, qm 398 (by decide +kernel) rfl, qm 16 (by decide +kernel) rfl, (by decide +kernel), (by decide +kernel)⟩
theorem mX5_level : qMth yX5_level (.code yX5_level cX5_level 2 (some .int)) cX5_level 2 (some .int) 1 := ⟨rfl, qm 403 (by decide +kernel) rfl, qm 401 (by decide +kernel) rfl, qm 402 (by decide +kernel) rfl, qm 16 (by decide +kernel) rfl, (by decide +kernel), (by decide +kernel)⟩
theorem mX5_above : qMth yX5_above (.code yX5_above cX5_above 2 (some .int)) cX5_above 2 (some .int) 1 := ⟨rfl, qm 420 (by decide +kernel) rfl, qm 418 (by decide +kernel) rfl, qm 419 (by decide +kernel) rfl, qm 16 (by decide +kernel) rfl, (by decide +kernel), (by decide +kernel)⟩
theorem mX5_height : qMth yX5_height (.code yX5_height cX5_height 2 (some .int)) cX5_height 2 (some .int) 1 := ⟨rfl, qm 429 (by decide +kernel) rfl, qm 427 (by decide +kernel) rfl, qm 428 (by decide +kernel) rfl, qm 16 (by decide +kernel) rfl, (by decide +kernel), (by decide +kernel)⟩
theorem mX5_boxAt : qMth yX5_boxAt (.code yX5_boxAt cX5_boxAt 4 (some .int)) cX5_boxAt 4 (some .int) 2 := ⟨rfl, qm 434 (by decide +kernel) rfl, qm 432 (by decide +kernel) rfl, qm 433 (by decide +kernel) rfl, qm 16 (by decide +kernel) rfl, (by decide +kernel), (by decide +kernel)⟩
theorem mX5_hold : qMth yX5_hold (.code yX5_hold cX5_hold 4 (some .int)) cX5_hold 4 (some .int) 3 := ⟨rfl, qm 455 (by decide +kernel) rfl, qm 453 (by decide +kernel) rfl, qm 454 (by decide +kernel) rfl, qm 16 (by decide +kernel) rfl, (by decide +kernel), (by decide +kernel)⟩
theorem mX5_release : qMth yX5_release (.code yX5_release cX5_release 3 (some .int)) cX5_release 3 (some .int) 1 := ⟨rfl, qm 498 (by decide +kernel) rfl, qm 496 (by decide +kernel) rfl, qm 497 (by decide +kernel) rfl, qm 16 (by decide +kernel) rfl, (by decide +kernel), (by decide +kernel)⟩
theorem mX5_holdOf : qMth yX5_holdOf (.code yX5_holdOf cX5_holdOf 2 (some .char)) cX5_holdOf 2 (some .char) 1 := ⟨rfl, qm 506 (by decide +kernel) rfl, qm 504 (by decide +kernel) rfl, qm 505 (by decide +kernel) rfl, qm 16 (by decide +kernel) rfl, (by decide +kernel), (by decide +kernel)⟩
theorem mX5_heldUntil : qMth yX5_heldUntil (.code yX5_heldUntil cX5_heldUntil 2 (some .int)) cX5_heldUntil 2 (some .int) 1 := ⟨rfl, qm 511 (by decide +kernel) rfl, qm 509 (by decide +kernel) rfl, qm 510 (by decide +kernel) rfl, qm 16 (by decide +kernel) rfl, (by decide +kernel), (by decide +kernel)⟩
theorem mX5_pinnedAbove : qMth yX5_pinnedAbove (.code yX5_pinnedAbove cX5_pinnedAbove 2 (some .int)) cX5_pinnedAbove 2 (some .int) 1 := ⟨rfl, qm 515 (by decide +kernel) rfl, qm 513 (by decide +kernel) rfl, qm 514 (by decide +kernel) rfl, qm 16 (by decide +kernel) rfl, (by decide +kernel), (by decide +kernel)⟩
theorem mX5_why : qMth yX5_why (.code yX5_why cX5_why 3 (some .char)) cX5_why 3 (some .char) 2 := ⟨rfl, qm 527 (by decide +kernel) rfl, qm 525 (by decide +kernel) rfl, qm 526 (by decide +kernel) rfl, qm 16 (by decide +kernel) rfl, (by decide +kernel), (by decide +kernel)⟩
theorem mX5_move : qMth yX5_move (.code yX5_move cX5_move 3 (some .int)) cX5_move 3 (some .int) 2 := ⟨rfl, qm 536 (by decide +kernel) rfl, qm 534 (by decide +kernel) rfl, qm 535 (by decide +kernel) rfl, qm 16 (by decide +kernel) rfl, (by decide +kernel), (by decide +kernel)⟩
theorem mX5_planLength : qMth yX5_planLength (.code yX5_planLength cX5_planLength 2 (some .int)) cX5_planLength 2 (some .int) 1 := ⟨rfl, qm 554 (by decide +kernel) rfl, qm 552 (by decide +kernel) rfl, qm 553 (by decide +kernel) rfl, qm 16 (by decide +kernel) rfl, (by decide +kernel), (by decide +kernel)⟩
theorem mX5_planByTrying : qMth yX5_planByTrying (.code yX5_planByTrying cX5_planByTrying 3 (some .int)) cX5_planByTrying 3 (some .int) 1 := ⟨rfl, qm 633 (by decide +kernel) rfl, qm 631 (by decide +kernel) rfl, qm 632 (by decide +kernel) rfl, qm 16 (by decide +kernel) rfl, (by decide +kernel), (by decide +kernel)⟩
theorem mX5_planBox : qMth yX5_planBox (.code yX5_planBox cX5_planBox 3 (some .int)) cX5_planBox 3 (some .int) 2 := ⟨rfl, qm 644 (by decide +kernel) rfl, qm 642 (by decide +kernel) rfl, qm 643 (by decide +kernel) rfl, qm 16 (by decide +kernel) rfl, (by decide +kernel), (by decide +kernel)⟩
theorem mX5_planStack : qMth yX5_planStack (.code yX5_planStack cX5_planStack 3 (some .int)) cX5_planStack 3 (some .int) 2 := ⟨rfl, qm 657 (by decide +kernel) rfl, qm 655 (by decide +kernel) rfl, qm 656 (by decide +kernel) rfl, qm 16 (by decide +kernel) rfl, (by decide +kernel), (by decide +kernel)⟩
theorem mX5_dig : qMth yX5_dig (.code yX5_dig cX5_dig 2 (some .int)) cX5_dig 2 (some .int) 1 := ⟨rfl, qm 665 (by decide +kernel) rfl, qm 663 (by decide +kernel) rfl, qm 664 (by decide +kernel) rfl, qm 16 (by decide +kernel) rfl, (by decide +kernel), (by decide +kernel)⟩
theorem mX5_moves : qMth yX5_moves (.code yX5_moves cX5_moves 1 (some .int)) cX5_moves 1 (some .int) 0 := ⟨rfl, qm 184 (by decide +kernel) rfl, qm 182 (by decide +kernel) rfl, qm 183 (by decide +kernel) rfl, qm 16 (by decide +kernel) rfl, (by decide +kernel), (by decide +kernel)⟩
theorem mX5_book : qMth yX5_book (.code yX5_book cX5_book 4 (some .int)) cX5_book 4 (some .int) 3 := ⟨rfl, qm 673 (by decide +kernel) rfl, qm 671 (by decide +kernel) rfl, qm 672 (by decide +kernel) rfl, qm 16 (by decide +kernel) rfl, (by decide +kernel), (by decide +kernel)⟩
theorem mX5_cancel : qMth yX5_cancel (.code yX5_cancel cX5_cancel 2 (some .int)) cX5_cancel 2 (some .int) 1 := ⟨rfl, qm 698 (by decide +kernel) rfl, qm 696 (by decide +kernel) rfl, qm 697 (by decide +kernel) rfl, qm 16 (by decide +kernel) rfl, (by decide +kernel), (by decide +kernel)⟩
theorem mX5_stateOf : qMth yX5_stateOf (.code yX5_stateOf cX5_stateOf 2 (some .char)) cX5_stateOf 2 (some .char) 1 := ⟨rfl, qm 716 (by decide +kernel) rfl, qm 714 (by decide +kernel) rfl, qm 715 (by decide +kernel) rfl, qm 16 (by decide +kernel) rfl, (by decide +kernel), (by decide +kernel)⟩
theorem mX5_appointmentOf : qMth yX5_appointmentOf (.code yX5_appointmentOf cX5_appointmentOf 3 (some .int)) cX5_appointmentOf 3 (some .int) 1 := ⟨rfl, qm 720 (by decide +kernel) rfl, qm 718 (by decide +kernel) rfl, qm 719 (by decide +kernel) rfl, qm 16 (by decide +kernel) rfl, (by decide +kernel), (by decide +kernel)⟩
theorem mX5_inLane : qMth yX5_inLane (.code yX5_inLane cX5_inLane 3 (some .int)) cX5_inLane 3 (some .int) 2 := ⟨rfl, qm 725 (by decide +kernel) rfl, qm 723 (by decide +kernel) rfl, qm 724 (by decide +kernel) rfl, qm 16 (by decide +kernel) rfl, (by decide +kernel), (by decide +kernel)⟩
theorem mX5_firstHour : qMth yX5_firstHour (.code yX5_firstHour cX5_firstHour 3 (some .int)) cX5_firstHour 3 (some .int) 1 := ⟨rfl, qm 730 (by decide +kernel) rfl, qm 728 (by decide +kernel) rfl, qm 729 (by decide +kernel) rfl, qm 16 (by decide +kernel) rfl, (by decide +kernel), (by decide +kernel)⟩
theorem mX5_pass : qMth yX5_pass (.code yX5_pass cX5_pass 5 (some .int)) cX5_pass 5 (some .int) 1 := ⟨rfl, qm 740 (by decide +kernel) rfl, qm 738 (by decide +kernel) rfl, qm 739 (by decide +kernel) rfl, qm 16 (by decide +kernel) rfl, (by decide +kernel), (by decide +kernel)⟩
theorem mX5_now : qMth yX5_now (.code yX5_now cX5_now 1 (some .int)) cX5_now 1 (some .int) 0 := ⟨rfl, qm 188 (by decide +kernel) rfl, qm 186 (by decide +kernel) rfl, qm 187 (by decide +kernel) rfl, qm 16 (by decide +kernel) rfl, (by decide +kernel), (by decide +kernel)⟩
theorem mX5_weightLeft : qMth yX5_weightLeft (.code yX5_weightLeft cX5_weightLeft 1 (some .long)) cX5_weightLeft 1 (some .long) 0 := ⟨rfl, qm 764 (by decide +kernel) rfl, qm 762 (by decide +kernel) rfl, qm 763 (by decide +kernel) rfl, qm 16 (by decide +kernel) rfl, (by decide +kernel), (by decide +kernel)⟩
theorem mX5_requireStack : qMth yX5_requireStack (.code yX5_requireStack cX5_requireStack 2 none) cX5_requireStack 2 none 1 := ⟨rfl, qm 310 (by decide +kernel) rfl, qm 309 (by decide +kernel) rfl, qm 1 (by decide +kernel) rfl, qm 16 (by decide +kernel) rfl, (by decide +kernel), (by decide +kernel)⟩
theorem mX5_requireBox : qMth yX5_requireBox (.code yX5_requireBox cX5_requireBox 2 none) cX5_requireBox 2 none 1 := ⟨rfl, qm 393 (by decide +kernel) rfl, qm 392 (by decide +kernel) rfl, qm 2 (by decide +kernel) rfl, qm 16 (by decide +kernel) rfl, (by decide +kernel), (by decide +kernel)⟩
theorem mX5_requireLane : qMth yX5_requireLane (.code yX5_requireLane cX5_requireLane 2 none) cX5_requireLane 2 none 1 := ⟨rfl, qm 677 (by decide +kernel) rfl, qm 676 (by decide +kernel) rfl, qm 12 (by decide +kernel) rfl, qm 16 (by decide +kernel) rfl, (by decide +kernel), (by decide +kernel)⟩
theorem mX5_requireAppointment : qMth yX5_requireAppointment (.code yX5_requireAppointment cX5_requireAppointment 2 none) cX5_requireAppointment 2 none 1 := ⟨rfl, qm 702 (by decide +kernel) rfl, qm 701 (by decide +kernel) rfl, qm 13 (by decide +kernel) rfl, qm 16 (by decide +kernel) rfl, (by decide +kernel), (by decide +kernel)⟩
theorem mX5_requirePlan : qMth yX5_requirePlan (.code yX5_requirePlan cX5_requirePlan 2 none) cX5_requirePlan 2 none 1 := ⟨rfl, qm 558 (by decide +kernel) rfl, qm 557 (by decide +kernel) rfl, qm 6 (by decide +kernel) rfl, qm 16 (by decide +kernel) rfl, (by decide +kernel), (by decide +kernel)⟩
theorem mX5_requirePlannedMove : qMth yX5_requirePlannedMove (.code yX5_requirePlannedMove cX5_requirePlannedMove 2 none) cX5_requirePlannedMove 2 none 1 := ⟨rfl, qm 648 (by decide +kernel) rfl, qm 647 (by decide +kernel) rfl, qm 10 (by decide +kernel) rfl, qm 16 (by decide +kernel) rfl, (by decide +kernel), (by decide +kernel)⟩
theorem mX5_makeMove : qMth yX5_makeMove (.code yX5_makeMove cX5_makeMove 3 none) cX5_makeMove 3 none 2 := ⟨rfl, qm 541 (by decide +kernel) rfl, qm 540 (by decide +kernel) rfl, qm 5 (by decide +kernel) rfl, qm 16 (by decide +kernel) rfl, (by decide +kernel), (by decide +kernel)⟩
theorem mX5_makePlannedMoves : qMth yX5_makePlannedMoves (.code yX5_makePlannedMoves cX5_makePlannedMoves 2 none) cX5_makePlannedMoves 2 none 0 := ⟨rfl, qm 669 (by decide +kernel) rfl, qm 668 (by decide +kernel) rfl, qm 11 (by decide +kernel) rfl, qm 16 (by decide +kernel) rfl, (by decide +kernel), (by decide +kernel)⟩
theorem mX5_giveBackIfHeld : qMth yX5_giveBackIfHeld (.code yX5_giveBackIfHeld cX5_giveBackIfHeld 3 (some .boolean)) cX5_giveBackIfHeld 3 (some .boolean) 1 := ⟨rfl, qm 462 (by decide +kernel) rfl, qm 461 (by decide +kernel) rfl, qm 3 (by decide +kernel) rfl, qm 16 (by decide +kernel) rfl, (by decide +kernel), (by decide +kernel)⟩
theorem mX5_serve : qMth yX5_serve (.code yX5_serve cX5_serve 3 (some .int)) cX5_serve 3 (some .int) 1 := ⟨rfl, qm 749 (by decide +kernel) rfl, qm 748 (by decide +kernel) rfl, qm 14 (by decide +kernel) rfl, qm 16 (by decide +kernel) rfl, (by decide +kernel), (by decide +kernel)⟩
theorem ml_L_131 : Cond.methodLink RL 131 yX5_boxes ∈ qAW := qm 165 (by decide +kernel) rfl
theorem ml_X5_80 : Cond.methodLink RX5 80 yX4_boxCount ∈ qAW := qm 169 (by decide +kernel) rfl
theorem ml_L_150 : Cond.methodLink RL 150 yX5_isInYard ∈ qAW := qm 173 (by decide +kernel) rfl
theorem ml_X5_95 : Cond.methodLink RX5 95 yX4_stackWith ∈ qAW := qm 177 (by decide +kernel) rfl
theorem ml_L_120 : Cond.methodLink RL 120 yX5_moves ∈ qAW := qm 181 (by decide +kernel) rfl
theorem ml_L_124 : Cond.methodLink RL 124 yX5_now ∈ qAW := qm 185 (by decide +kernel) rfl
theorem ml_L_135 : Cond.methodLink RL 135 yL_cell ∈ qAW := qm 189 (by decide +kernel) rfl
theorem ml_L_139 : Cond.methodLink RL 139 yL_low ∈ qAW := qm 193 (by decide +kernel) rfl
theorem ml_L_110 : Cond.methodLink RL 110 yL_call ∈ qAW := qm 197 (by decide +kernel) rfl
theorem ml_L_9 : Cond.methodLink RL 9 yX5_addStack ∈ qAW := qm 205 (by decide +kernel) rfl
theorem ml_X5_48 : Cond.methodLink RX5 48 yX4_stackCount ∈ qAW := qm 279 (by decide +kernel) rfl
theorem ml_X5_57 : Cond.methodLink RX5 57 yX4_openStack ∈ qAW := qm 299 (by decide +kernel) rfl
theorem ml_L_15 : Cond.methodLink RL 15 yX5_addBox ∈ qAW := qm 303 (by decide +kernel) rfl
theorem ml_X5_61 : Cond.methodLink RX5 61 yX5_requireStack ∈ qAW := qm 307 (by decide +kernel) rfl
theorem ml_X5_255 : Cond.methodLink RX5 255 yX4_hasStack ∈ qAW := qm 311 (by decide +kernel) rfl
theorem ml_X5_67 : Cond.methodLink RX5 67 yX4_isFull ∈ qAW := qm 332 (by decide +kernel) rfl
theorem ml_X5_71 : Cond.methodLink RX5 71 yX4_bears ∈ qAW := qm 336 (by decide +kernel) rfl
theorem ml_X4_41 : Cond.methodLink RX4 41 yX4_topOf ∈ qAW := qm 340 (by decide +kernel) rfl
theorem ml_X4_45 : Cond.methodLink RX4 45 yX0_weightOf ∈ qAW := qm 344 (by decide +kernel) rfl
theorem ml_X5_83 : Cond.methodLink RX5 83 yX0_come ∈ qAW := qm 364 (by decide +kernel) rfl
theorem ml_X5_88 : Cond.methodLink RX5 88 yX0_register ∈ qAW := qm 369 (by decide +kernel) rfl
theorem ml_X0_26 : Cond.methodLink RX0 26 yX0_endHold ∈ qAW := qm 373 (by decide +kernel) rfl
theorem ml_X0_42 : Cond.methodLink RX0 42 yX0_putHold ∈ qAW := qm 377 (by decide +kernel) rfl
theorem ml_X5_91 : Cond.methodLink RX5 91 yX4_put ∈ qAW := qm 381 (by decide +kernel) rfl
theorem ml_X4_67 : Cond.methodLink RX4 67 yX4_isFull ∈ qAW := qm 385 (by decide +kernel) rfl
theorem ml_L_19 : Cond.methodLink RL 19 yX5_weight ∈ qAW := qm 386 (by decide +kernel) rfl
theorem ml_X5_98 : Cond.methodLink RX5 98 yX5_requireBox ∈ qAW := qm 390 (by decide +kernel) rfl
theorem ml_X5_101 : Cond.methodLink RX5 101 yX0_weightOf ∈ qAW := qm 395 (by decide +kernel) rfl
theorem ml_L_22 : Cond.methodLink RL 22 yX5_stackOf ∈ qAW := qm 396 (by decide +kernel) rfl
theorem ml_L_25 : Cond.methodLink RL 25 yX5_level ∈ qAW := qm 400 (by decide +kernel) rfl
theorem ml_X5_104 : Cond.methodLink RX5 104 yX4_boxesUnder ∈ qAW := qm 404 (by decide +kernel) rfl
theorem ml_X4_53 : Cond.methodLink RX4 53 yX4_stackWith ∈ qAW := qm 408 (by decide +kernel) rfl
theorem ml_X4_50 : Cond.methodLink RX4 50 yX4_heightOf ∈ qAW := qm 409 (by decide +kernel) rfl
theorem ml_X4_56 : Cond.methodLink RX4 56 yX4_boxOn ∈ qAW := qm 413 (by decide +kernel) rfl
theorem ml_L_28 : Cond.methodLink RL 28 yX5_above ∈ qAW := qm 417 (by decide +kernel) rfl
theorem ml_X5_107 : Cond.methodLink RX5 107 yX4_boxesOver ∈ qAW := qm 421 (by decide +kernel) rfl
theorem ml_X4_60 : Cond.methodLink RX4 60 yX4_boxesUnder ∈ qAW := qm 425 (by decide +kernel) rfl
theorem ml_L_31 : Cond.methodLink RL 31 yX5_height ∈ qAW := qm 426 (by decide +kernel) rfl
theorem ml_X5_110 : Cond.methodLink RX5 110 yX4_heightOf ∈ qAW := qm 430 (by decide +kernel) rfl
theorem ml_L_34 : Cond.methodLink RL 34 yX5_boxAt ∈ qAW := qm 431 (by decide +kernel) rfl
theorem ml_X5_113 : Cond.methodLink RX5 113 yX4_boxOn ∈ qAW := qm 435 (by decide +kernel) rfl
theorem ml_L_37 : Cond.methodLink RL 37 yX5_hold ∈ qAW := qm 452 (by decide +kernel) rfl
theorem ml_X5_130 : Cond.methodLink RX5 130 yX0_putHold ∈ qAW := qm 458 (by decide +kernel) rfl
theorem ml_X5_134 : Cond.methodLink RX5 134 yX5_giveBackIfHeld ∈ qAW := qm 459 (by decide +kernel) rfl
theorem ml_X5_200 : Cond.methodLink RX5 200 yX1_bookedFor ∈ qAW := qm 463 (by decide +kernel) rfl
theorem ml_X5_277 : Cond.methodLink RX5 277 yX1_hourOf ∈ qAW := qm 467 (by decide +kernel) rfl
theorem ml_X1_29 : Cond.methodLink RX1 29 yX1_has ∈ qAW := qm 471 (by decide +kernel) rfl
theorem ml_X5_195 : Cond.methodLink RX5 195 yX0_isHeldIn ∈ qAW := qm 475 (by decide +kernel) rfl
theorem ml_X0_34 : Cond.methodLink RX0 34 yX0_isHeld ∈ qAW := qm 479 (by decide +kernel) rfl
theorem ml_X0_30 : Cond.methodLink RX0 30 yX0_holdKind ∈ qAW := qm 483 (by decide +kernel) rfl
theorem ml_X0_38 : Cond.methodLink RX0 38 yX0_holdEnd ∈ qAW := qm 487 (by decide +kernel) rfl
theorem ml_X5_224 : Cond.methodLink RX5 224 yX1_turn ∈ qAW := qm 491 (by decide +kernel) rfl
theorem ml_L_41 : Cond.methodLink RL 41 yX5_release ∈ qAW := qm 495 (by decide +kernel) rfl
theorem ml_X5_137 : Cond.methodLink RX5 137 yX0_isHeld ∈ qAW := qm 499 (by decide +kernel) rfl
theorem ml_X5_142 : Cond.methodLink RX5 142 yX0_holdEnd ∈ qAW := qm 501 (by decide +kernel) rfl
theorem ml_X5_145 : Cond.methodLink RX5 145 yX0_endHold ∈ qAW := qm 502 (by decide +kernel) rfl
theorem ml_L_44 : Cond.methodLink RL 44 yX5_holdOf ∈ qAW := qm 503 (by decide +kernel) rfl
theorem ml_X5_148 : Cond.methodLink RX5 148 yX0_holdKind ∈ qAW := qm 507 (by decide +kernel) rfl
theorem ml_L_48 : Cond.methodLink RL 48 yX5_heldUntil ∈ qAW := qm 508 (by decide +kernel) rfl
theorem ml_L_51 : Cond.methodLink RL 51 yX5_pinnedAbove ∈ qAW := qm 512 (by decide +kernel) rfl
theorem ml_X5_152 : Cond.methodLink RX5 152 yX4_pinnedOver ∈ qAW := qm 516 (by decide +kernel) rfl
theorem ml_X4_63 : Cond.methodLink RX4 63 yX0_isPinned ∈ qAW := qm 520 (by decide +kernel) rfl
theorem ml_L_54 : Cond.methodLink RL 54 yX5_why ∈ qAW := qm 524 (by decide +kernel) rfl
theorem ml_X5_155 : Cond.methodLink RX5 155 yX4_reasonAgainst ∈ qAW := qm 528 (by decide +kernel) rfl
theorem ml_X4_70 : Cond.methodLink RX4 70 yX4_bears ∈ qAW := qm 532 (by decide +kernel) rfl
theorem ml_L_58 : Cond.methodLink RL 58 yX5_move ∈ qAW := qm 533 (by decide +kernel) rfl
theorem ml_X5_161 : Cond.methodLink RX5 161 yX5_makeMove ∈ qAW := qm 538 (by decide +kernel) rfl
theorem ml_X5_274 : Cond.methodLink RX5 274 yX4_shift ∈ qAW := qm 542 (by decide +kernel) rfl
theorem ml_X4_74 : Cond.methodLink RX4 74 yX4_take ∈ qAW := qm 546 (by decide +kernel) rfl
theorem ml_X4_78 : Cond.methodLink RX4 78 yX4_put ∈ qAW := qm 550 (by decide +kernel) rfl
theorem ml_L_61 : Cond.methodLink RL 61 yX5_planLength ∈ qAW := qm 551 (by decide +kernel) rfl
theorem ml_X5_167 : Cond.methodLink RX5 167 yX5_requirePlan ∈ qAW := qm 555 (by decide +kernel) rfl
theorem ml_X5_269 : Cond.methodLink RX5 269 yX3_find ∈ qAW := qm 559 (by decide +kernel) rfl
theorem ml_X3_25 : Cond.methodLink RX3 25 yX4_boxesOver ∈ qAW := qm 563 (by decide +kernel) rfl
theorem ml_X3_31 : Cond.methodLink RX3 31 yX2_clear ∈ qAW := qm 564 (by decide +kernel) rfl
theorem ml_X3_34 : Cond.methodLink RX3 34 yX3_begunWith ∈ qAW := qm 568 (by decide +kernel) rfl
theorem ml_X3_38 : Cond.methodLink RX3 38 yX2_add ∈ qAW := qm 571 (by decide +kernel) rfl
theorem ml_X3_42 : Cond.methodLink RX3 42 yX2_isEmpty ∈ qAW := qm 575 (by decide +kernel) rfl
theorem ml_X3_46 : Cond.methodLink RX3 46 yX2_takeFirst ∈ qAW := qm 579 (by decide +kernel) rfl
theorem ml_X2_17 : Cond.methodLink RX2 17 yX2_sinkFromTop ∈ qAW := qm 583 (by decide +kernel) rfl
theorem ml_X3_50 : Cond.methodLink RX3 50 yX3_needOf ∈ qAW := qm 587 (by decide +kernel) rfl
theorem ml_X3_54 : Cond.methodLink RX3 54 yX3_lengthOf ∈ qAW := qm 590 (by decide +kernel) rfl
theorem ml_X3_61 : Cond.methodLink RX3 61 yX3_layOut ∈ qAW := qm 593 (by decide +kernel) rfl
theorem ml_X3_72 : Cond.methodLink RX3 72 yX4_copyFrom ∈ qAW := qm 597 (by decide +kernel) rfl
theorem ml_X3_68 : Cond.methodLink RX3 68 yX3_moveOf ∈ qAW := qm 604 (by decide +kernel) rfl
theorem ml_X3_106 : Cond.methodLink RX3 106 yX3_shiftOf ∈ qAW := qm 607 (by decide +kernel) rfl
theorem ml_X3_95 : Cond.methodLink RX3 95 yX4_stackWith ∈ qAW := qm 610 (by decide +kernel) rfl
theorem ml_X3_91 : Cond.methodLink RX3 91 yX4_shift ∈ qAW := qm 611 (by decide +kernel) rfl
theorem ml_X3_64 : Cond.methodLink RX3 64 yX3_addNextMoves ∈ qAW := qm 612 (by decide +kernel) rfl
theorem ml_X3_80 : Cond.methodLink RX3 80 yX4_stackCount ∈ qAW := qm 616 (by decide +kernel) rfl
theorem ml_X3_84 : Cond.methodLink RX3 84 yX4_topOf ∈ qAW := qm 617 (by decide +kernel) rfl
theorem ml_X3_98 : Cond.methodLink RX3 98 yX3_extraNeed ∈ qAW := qm 618 (by decide +kernel) rfl
theorem ml_X3_87 : Cond.methodLink RX3 87 yX4_reasonAgainst ∈ qAW := qm 621 (by decide +kernel) rfl
theorem ml_X3_102 : Cond.methodLink RX3 102 yX3_goneOn ∈ qAW := qm 622 (by decide +kernel) rfl
theorem ml_X5_170 : Cond.methodLink RX5 170 yX3_length ∈ qAW := qm 626 (by decide +kernel) rfl
theorem ml_L_64 : Cond.methodLink RL 64 yX5_planByTrying ∈ qAW := qm 630 (by decide +kernel) rfl
theorem ml_X5_173 : Cond.methodLink RX5 173 yX3_lengthByTrying ∈ qAW := qm 634 (by decide +kernel) rfl
theorem ml_X3_76 : Cond.methodLink RX3 76 yX3_fewestMoves ∈ qAW := qm 638 (by decide +kernel) rfl
theorem ml_L_67 : Cond.methodLink RL 67 yX5_planBox ∈ qAW := qm 641 (by decide +kernel) rfl
theorem ml_X5_178 : Cond.methodLink RX5 178 yX5_requirePlannedMove ∈ qAW := qm 645 (by decide +kernel) rfl
theorem ml_X5_181 : Cond.methodLink RX5 181 yX3_boxMoved ∈ qAW := qm 650 (by decide +kernel) rfl
theorem ml_L_70 : Cond.methodLink RL 70 yX5_planStack ∈ qAW := qm 654 (by decide +kernel) rfl
theorem ml_X5_184 : Cond.methodLink RX5 184 yX3_stackReached ∈ qAW := qm 658 (by decide +kernel) rfl
theorem ml_L_73 : Cond.methodLink RL 73 yX5_dig ∈ qAW := qm 662 (by decide +kernel) rfl
theorem ml_X5_187 : Cond.methodLink RX5 187 yX5_makePlannedMoves ∈ qAW := qm 666 (by decide +kernel) rfl
theorem ml_L_76 : Cond.methodLink RL 76 yX5_book ∈ qAW := qm 670 (by decide +kernel) rfl
theorem ml_X5_190 : Cond.methodLink RX5 190 yX5_requireLane ∈ qAW := qm 674 (by decide +kernel) rfl
theorem ml_X5_203 : Cond.methodLink RX5 203 yX1_bookedAt ∈ qAW := qm 681 (by decide +kernel) rfl
theorem ml_X5_208 : Cond.methodLink RX5 208 yX1_count ∈ qAW := qm 686 (by decide +kernel) rfl
theorem ml_X5_213 : Cond.methodLink RX5 213 yX1_register ∈ qAW := qm 691 (by decide +kernel) rfl
theorem ml_L_80 : Cond.methodLink RL 80 yX5_cancel ∈ qAW := qm 695 (by decide +kernel) rfl
theorem ml_X5_216 : Cond.methodLink RX5 216 yX5_requireAppointment ∈ qAW := qm 699 (by decide +kernel) rfl
theorem ml_X5_219 : Cond.methodLink RX5 219 yX1_state ∈ qAW := qm 704 (by decide +kernel) rfl
theorem ml_X5_228 : Cond.methodLink RX5 228 yX1_countIn ∈ qAW := qm 709 (by decide +kernel) rfl
theorem ml_L_83 : Cond.methodLink RL 83 yX5_stateOf ∈ qAW := qm 713 (by decide +kernel) rfl
theorem ml_L_86 : Cond.methodLink RL 86 yX5_appointmentOf ∈ qAW := qm 717 (by decide +kernel) rfl
theorem ml_L_89 : Cond.methodLink RL 89 yX5_inLane ∈ qAW := qm 722 (by decide +kernel) rfl
theorem ml_L_92 : Cond.methodLink RL 92 yX5_firstHour ∈ qAW := qm 727 (by decide +kernel) rfl
theorem ml_X5_236 : Cond.methodLink RX5 236 yX1_hasFreeLane ∈ qAW := qm 731 (by decide +kernel) rfl
theorem ml_X1_33 : Cond.methodLink RX1 33 yX1_bookedAt ∈ qAW := qm 735 (by decide +kernel) rfl
theorem ml_L_95 : Cond.methodLink RL 95 yX5_pass ∈ qAW := qm 737 (by decide +kernel) rfl
theorem ml_X5_243 : Cond.methodLink RX5 243 yX0_endHoldsOf ∈ qAW := qm 742 (by decide +kernel) rfl
theorem ml_X5_246 : Cond.methodLink RX5 246 yX5_serve ∈ qAW := qm 746 (by decide +kernel) rfl
theorem ml_X5_280 : Cond.methodLink RX5 280 yX1_boxOf ∈ qAW := qm 750 (by decide +kernel) rfl
theorem ml_X5_283 : Cond.methodLink RX5 283 yX4_take ∈ qAW := qm 754 (by decide +kernel) rfl
theorem ml_L_142 : Cond.methodLink RL 142 yL_state ∈ qAW := qm 755 (by decide +kernel) rfl
theorem ml_L_127 : Cond.methodLink RL 127 yX5_weightLeft ∈ qAW := qm 761 (by decide +kernel) rfl
theorem ml_L_146 : Cond.methodLink RL 146 yL_sound ∈ qAW := qm 765 (by decide +kernel) rfl
theorem fl_X0_9 : Cond.fieldLink RX0 9 (TX0 0).1 (TX0 0).2.1 (TX0 0).2.2.1 ∈ qAW := qm 45 (by decide +kernel) rfl
theorem fl_X0_15 : Cond.fieldLink RX0 15 (TX0 1).1 (TX0 1).2.1 (TX0 1).2.2.1 ∈ qAW := qm 46 (by decide +kernel) rfl
theorem fl_X0_19 : Cond.fieldLink RX0 19 (TX0 2).1 (TX0 2).2.1 (TX0 2).2.2.1 ∈ qAW := qm 47 (by decide +kernel) rfl
theorem fl_X0_22 : Cond.fieldLink RX0 22 (TX0 3).1 (TX0 3).2.1 (TX0 3).2.2.1 ∈ qAW := qm 48 (by decide +kernel) rfl
theorem fl_X4_24 : Cond.fieldLink RX4 24 (TX4 0).1 (TX4 0).2.1 (TX4 0).2.2.1 ∈ qAW := qm 66 (by decide +kernel) rfl
theorem fl_X4_9 : Cond.fieldLink RX4 9 (TX4 1).1 (TX4 1).2.1 (TX4 1).2.2.1 ∈ qAW := qm 67 (by decide +kernel) rfl
theorem fl_X4_15 : Cond.fieldLink RX4 15 (TX4 2).1 (TX4 2).2.1 (TX4 2).2.2.1 ∈ qAW := qm 68 (by decide +kernel) rfl
theorem fl_X4_18 : Cond.fieldLink RX4 18 (TX4 3).1 (TX4 3).2.1 (TX4 3).2.2.1 ∈ qAW := qm 69 (by decide +kernel) rfl
theorem fl_X4_21 : Cond.fieldLink RX4 21 (TX4 4).1 (TX4 4).2.1 (TX4 4).2.2.1 ∈ qAW := qm 70 (by decide +kernel) rfl
theorem fl_X4_34 : Cond.fieldLink RX4 34 (TX4 5).1 (TX4 5).2.1 (TX4 5).2.2.1 ∈ qAW := qm 71 (by decide +kernel) rfl
theorem fl_X4_38 : Cond.fieldLink RX4 38 (TX4 6).1 (TX4 6).2.1 (TX4 6).2.2.1 ∈ qAW := qm 72 (by decide +kernel) rfl
theorem fl_X2_9 : Cond.fieldLink RX2 9 (TX2 0).1 (TX2 0).2.1 (TX2 0).2.2.1 ∈ qAW := qm 100 (by decide +kernel) rfl
theorem fl_X2_13 : Cond.fieldLink RX2 13 (TX2 1).1 (TX2 1).2.1 (TX2 1).2.2.1 ∈ qAW := qm 101 (by decide +kernel) rfl
theorem fl_X3_18 : Cond.fieldLink RX3 18 (TX3 0).1 (TX3 0).2.1 (TX3 0).2.2.1 ∈ qAW := qm 108 (by decide +kernel) rfl
theorem fl_X3_22 : Cond.fieldLink RX3 22 (TX3 1).1 (TX3 1).2.1 (TX3 1).2.2.1 ∈ qAW := qm 109 (by decide +kernel) rfl
theorem fl_X3_14 : Cond.fieldLink RX3 14 (TX3 2).1 (TX3 2).2.1 (TX3 2).2.2.1 ∈ qAW := qm 110 (by decide +kernel) rfl
theorem fl_X3_57 : Cond.fieldLink RX3 57 (TX3 3).1 (TX3 3).2.1 (TX3 3).2.2.1 ∈ qAW := qm 111 (by decide +kernel) rfl
theorem fl_X1_9 : Cond.fieldLink RX1 9 (TX1 0).1 (TX1 0).2.1 (TX1 0).2.2.1 ∈ qAW := qm 127 (by decide +kernel) rfl
theorem fl_X1_15 : Cond.fieldLink RX1 15 (TX1 1).1 (TX1 1).2.1 (TX1 1).2.2.1 ∈ qAW := qm 128 (by decide +kernel) rfl
theorem fl_X1_18 : Cond.fieldLink RX1 18 (TX1 2).1 (TX1 2).2.1 (TX1 2).2.2.1 ∈ qAW := qm 129 (by decide +kernel) rfl
theorem fl_X1_21 : Cond.fieldLink RX1 21 (TX1 3).1 (TX1 3).2.1 (TX1 3).2.2.1 ∈ qAW := qm 130 (by decide +kernel) rfl
theorem fl_X1_25 : Cond.fieldLink RX1 25 (TX1 4).1 (TX1 4).2.1 (TX1 4).2.2.1 ∈ qAW := qm 131 (by decide +kernel) rfl
theorem fl_X5_15 : Cond.fieldLink RX5 15 (TX5 0).1 (TX5 0).2.1 (TX5 0).2.2.1 ∈ qAW := qm 143 (by decide +kernel) rfl
theorem fl_X5_21 : Cond.fieldLink RX5 21 (TX5 1).1 (TX5 1).2.1 (TX5 1).2.2.1 ∈ qAW := qm 144 (by decide +kernel) rfl
theorem fl_X5_30 : Cond.fieldLink RX5 30 (TX5 2).1 (TX5 2).2.1 (TX5 2).2.2.1 ∈ qAW := qm 145 (by decide +kernel) rfl
theorem fl_X5_37 : Cond.fieldLink RX5 37 (TX5 3).1 (TX5 3).2.1 (TX5 3).2.2.1 ∈ qAW := qm 146 (by decide +kernel) rfl
theorem fl_X5_124 : Cond.fieldLink RX5 124 (TX5 4).1 (TX5 4).2.1 (TX5 4).2.2.1 ∈ qAW := qm 147 (by decide +kernel) rfl
theorem fl_X5_164 : Cond.fieldLink RX5 164 (TX5 5).1 (TX5 5).2.1 (TX5 5).2.2.1 ∈ qAW := qm 148 (by decide +kernel) rfl
theorem fl_X5_249 : Cond.fieldLink RX5 249 (TX5 6).1 (TX5 6).2.1 (TX5 6).2.2.1 ∈ qAW := qm 149 (by decide +kernel) rfl
theorem tk_IllegalArgumentException : Cond.classLink RX5 41 "java/lang/IllegalArgumentException" ∈ qAW := qm 209 (by decide +kernel) rfl
theorem ti_IllegalArgumentException : Cond.initialized "java/lang/IllegalArgumentException" ∈ qAW := qm 25 (by decide +kernel) rfl
theorem ta_IllegalArgumentException : ∀ w ∈ vx_atS RX5 45 "java/lang/IllegalArgumentException" ["java/lang/RuntimeException", "java/lang/Exception"], w ∈ qAW ∨ w ∈ qNg := by
  have h : (vx_atS RX5 45 "java/lang/IllegalArgumentException" ["java/lang/RuntimeException", "java/lang/Exception"]).all (fun w => decide (w ∈ lw_tbl) && (goodWord w || qNgw w)) = true := by decide +kernel
  intro w hw
  have h1 := List.all_eq_true.mp h w hw
  simp only [Bool.and_eq_true, Bool.or_eq_true, decide_eq_true_eq] at h1
  rcases h1 with ⟨h1, h2 | h2⟩
  · exact Or.inl (List.mem_filter.mpr ⟨h1, h2⟩)
  · exact Or.inr (List.mem_filter.mpr ⟨h1, h2⟩)
theorem tg_IllegalArgumentException : ∀ w ∈ Cond.classLink RX5 41 "java/lang/IllegalArgumentException" :: Cond.initialized "java/lang/IllegalArgumentException" :: vx_atS RX5 45 "java/lang/IllegalArgumentException" ["java/lang/RuntimeException", "java/lang/Exception"], vx_ot w = true := by decide +kernel
theorem tk_IllegalStateException : Cond.classLink RX5 52 "java/lang/IllegalStateException" ∈ qAW := qm 283 (by decide +kernel) rfl
theorem ti_IllegalStateException : Cond.initialized "java/lang/IllegalStateException" ∈ qAW := qm 26 (by decide +kernel) rfl
theorem ta_IllegalStateException : ∀ w ∈ vx_atS RX5 56 "java/lang/IllegalStateException" ["java/lang/RuntimeException", "java/lang/Exception"], w ∈ qAW ∨ w ∈ qNg := by
  have h : (vx_atS RX5 56 "java/lang/IllegalStateException" ["java/lang/RuntimeException", "java/lang/Exception"]).all (fun w => decide (w ∈ lw_tbl) && (goodWord w || qNgw w)) = true := by decide +kernel
  intro w hw
  have h1 := List.all_eq_true.mp h w hw
  simp only [Bool.and_eq_true, Bool.or_eq_true, decide_eq_true_eq] at h1
  rcases h1 with ⟨h1, h2 | h2⟩
  · exact Or.inl (List.mem_filter.mpr ⟨h1, h2⟩)
  · exact Or.inr (List.mem_filter.mpr ⟨h1, h2⟩)
theorem tg_IllegalStateException : ∀ w ∈ Cond.classLink RX5 52 "java/lang/IllegalStateException" :: Cond.initialized "java/lang/IllegalStateException" :: vx_atS RX5 56 "java/lang/IllegalStateException" ["java/lang/RuntimeException", "java/lang/Exception"], vx_ot w = true := by decide +kernel
theorem tk_UnsupportedOperationException : Cond.classLink RX5 75 "java/lang/UnsupportedOperationException" ∈ qAW := qm 348 (by decide +kernel) rfl
theorem ti_UnsupportedOperationException : Cond.initialized "java/lang/UnsupportedOperationException" ∈ qAW := qm 28 (by decide +kernel) rfl
theorem ta_UnsupportedOperationException : ∀ w ∈ vx_atS RX5 79 "java/lang/UnsupportedOperationException" ["java/lang/RuntimeException", "java/lang/Exception"], w ∈ qAW ∨ w ∈ qNg := by
  have h : (vx_atS RX5 79 "java/lang/UnsupportedOperationException" ["java/lang/RuntimeException", "java/lang/Exception"]).all (fun w => decide (w ∈ lw_tbl) && (goodWord w || qNgw w)) = true := by decide +kernel
  intro w hw
  have h1 := List.all_eq_true.mp h w hw
  simp only [Bool.and_eq_true, Bool.or_eq_true, decide_eq_true_eq] at h1
  rcases h1 with ⟨h1, h2 | h2⟩
  · exact Or.inl (List.mem_filter.mpr ⟨h1, h2⟩)
  · exact Or.inr (List.mem_filter.mpr ⟨h1, h2⟩)
theorem tg_UnsupportedOperationException : ∀ w ∈ Cond.classLink RX5 75 "java/lang/UnsupportedOperationException" :: Cond.initialized "java/lang/UnsupportedOperationException" :: vx_atS RX5 79 "java/lang/UnsupportedOperationException" ["java/lang/RuntimeException", "java/lang/Exception"], vx_ot w = true := by decide +kernel
theorem tk_IndexOutOfBoundsException : Cond.classLink RX5 258 "java/lang/IndexOutOfBoundsException" ∈ qAW := qm 315 (by decide +kernel) rfl
theorem ti_IndexOutOfBoundsException : Cond.initialized "java/lang/IndexOutOfBoundsException" ∈ qAW := qm 27 (by decide +kernel) rfl
theorem ta_IndexOutOfBoundsException : ∀ w ∈ vx_atS RX5 262 "java/lang/IndexOutOfBoundsException" ["java/lang/RuntimeException", "java/lang/Exception"], w ∈ qAW ∨ w ∈ qNg := by
  have h : (vx_atS RX5 262 "java/lang/IndexOutOfBoundsException" ["java/lang/RuntimeException", "java/lang/Exception"]).all (fun w => decide (w ∈ lw_tbl) && (goodWord w || qNgw w)) = true := by decide +kernel
  intro w hw
  have h1 := List.all_eq_true.mp h w hw
  simp only [Bool.and_eq_true, Bool.or_eq_true, decide_eq_true_eq] at h1
  rcases h1 with ⟨h1, h2 | h2⟩
  · exact Or.inl (List.mem_filter.mpr ⟨h1, h2⟩)
  · exact Or.inr (List.mem_filter.mpr ⟨h1, h2⟩)
theorem tg_IndexOutOfBoundsException : ∀ w ∈ Cond.classLink RX5 258 "java/lang/IndexOutOfBoundsException" :: Cond.initialized "java/lang/IndexOutOfBoundsException" :: vx_atS RX5 262 "java/lang/IndexOutOfBoundsException" ["java/lang/RuntimeException", "java/lang/Exception"], vx_ot w = true := by decide +kernel
theorem tk_NoSuchElementException : Cond.classLink RX5 117 "java/util/NoSuchElementException" ∈ qAW := qm 436 (by decide +kernel) rfl
theorem ti_NoSuchElementException : Cond.initialized "java/util/NoSuchElementException" ∈ qAW := qm 29 (by decide +kernel) rfl
